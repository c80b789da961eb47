/-- GlassThreadsModel.dealt(I)I -/
def f_X12_dealt (a1 : Int32) (m : mm_M) : Option (Int32 × mm_M) :=
mm_let (mm_w m 12 0 3 0) fun m1 =>
mm_b1 (f_X12_isIn a1 0 ((m1 12 0 78) - 1) m1) fun r2 =>
if r2 ≠ 0 then (if (m1 12 0 94) ≤ a1 then (some ((-1), m1))
else (if mm_in a1 6 then (
some ((m1 128 0 a1.toNatClampNeg), m1)) else none))
else (mm_b2 (f_X12_fail 1 m1) fun r3 m4 =>
some (r3, m4))
set_option maxHeartbeats 4000000 in
set_option maxRecDepth 100000 in
theorem k_X12_dealt (d : Nat) (hd : 1 ≤ d) (a1 : Int32) (m : mm_M) (r : Int32 × mm_M) (hres : f_X12_dealt a1 m = some r) : mm_X d 244 [.inr (.inr (some (12, 0))), .inl a1] m (.inl (some (.inl r.1)), r.2, 0, 0) := by
  unfold f_X12_dealt at hres
  obtain ⟨d, rfl⟩ : ∃ e, d = e + 1 := ⟨d - 1, by omega⟩
  show mm_E (d + 1) 244 (0, [some (.inr (.inr (some (12, 0)))), some (.inl a1)], [], m) (.inl (some (.inl r.1)), r.2, 0, 0)
  refine e_steps 3 (s' := (5, [some (.inr (.inr (some (12, 0)))), some (.inl a1)], [], (mm_w m 12 0 3 0))) rfl ?_
  refine e_let (fun (m1 : mm_M) => (5, [some (.inr (.inr (some (12, 0)))), some (.inl a1)], [], m1)) hres (fun m1 hres => ?_)
  refine e_steps 6 (s' := (13, [some (.inr (.inr (some (12, 0)))), some (.inl a1)], [.inl ((m1 12 0 78) - 1), .inl 0, .inl a1], m1)) rfl ?_
  obtain ⟨r2, hv, hres⟩ := mm_b1_some hres
  refine e_call0 (pc := 16) (L := [some (.inr (.inr (some (12, 0)))), some (.inl a1)]) (st := []) (m' := m1) (v := some (.inl r2)) rfl (k_X12_isIn d (by omega) a1 0 ((m1 12 0 78) - 1) _ _ hv) ?_
  show mm_E (d + 1) 244 (16, [some (.inr (.inr (some (12, 0)))), some (.inl a1)], [.inl r2], m1) (.inl (some (.inl r.1)), r.2, 0, 0)
  refine e_if (s1 := (25, [some (.inr (.inr (some (12, 0)))), some (.inl a1)], [], m1)) (s2 := (19, [some (.inr (.inr (some (12, 0)))), some (.inl a1)], [], m1)) rfl hres (fun hc hres => ?_) (fun hc hres => ?_)
  · refine e_steps 3 (s' := (30, [some (.inr (.inr (some (12, 0)))), some (.inl a1)], [.inl (m1 12 0 94), .inl a1], m1)) rfl ?_
    refine e_if (s1 := (42, [some (.inr (.inr (some (12, 0)))), some (.inl a1)], [], m1)) (s2 := (33, [some (.inr (.inr (some (12, 0)))), some (.inl a1)], [], m1)) rfl hres (fun hc hres => ?_) (fun hc hres => ?_)
    · refine e_steps 1 (s' := (43, [some (.inr (.inr (some (12, 0)))), some (.inl a1)], [.inl (-1)], m1)) rfl ?_
      refine e_mask (L' := [none, none]) rfl ?_
      obtain rfl := Option.some.inj hres
      exact e_ret rfl rfl
    · refine e_steps 3 (s' := (38, [some (.inr (.inr (some (12, 0)))), some (.inl a1)], [.inl a1, .inr (.inr (some (128, 0)))], m1)) rfl ?_
      refine e_gd (s1 := (39, [some (.inr (.inr (some (12, 0)))), some (.inl a1)], [.inl (m1 128 0 a1.toNatClampNeg)], m1)) rfl hres (fun hc hres => ?_)
      refine e_steps 1 (s' := (43, [some (.inr (.inr (some (12, 0)))), some (.inl a1)], [.inl (m1 128 0 a1.toNatClampNeg)], m1)) rfl ?_
      refine e_mask (L' := [none, none]) rfl ?_
      obtain rfl := Option.some.inj hres
      exact e_ret rfl rfl
  · refine e_steps 2 (s' := (21, [some (.inr (.inr (some (12, 0)))), some (.inl a1)], [.inl 1, .inr (.inr (some (12, 0)))], m1)) rfl ?_
    obtain ⟨r3, m4, hv, hres⟩ := mm_b2_some hres
    refine e_call0 (pc := 24) (L := [some (.inr (.inr (some (12, 0)))), some (.inl a1)]) (st := []) (m' := m4) (v := some (.inl r3)) rfl (k_X12_fail d (by omega) 1 _ _ hv) ?_
    show mm_E (d + 1) 244 (24, [some (.inr (.inr (some (12, 0)))), some (.inl a1)], [.inl r3], m4) (.inl (some (.inl r.1)), r.2, 0, 0)
    obtain rfl := Option.some.inj hres
    exact e_ret rfl rfl
/-- GlassThreadsModel.lostBy(I)I -/
def f_X12_lostBy (a1 : Int32) (m : mm_M) : Option (Int32 × mm_M) :=
(mm_b1 (mm_loop (σ := Int32 × Int32 × mm_M) (ρ := (Int32 × mm_M)) (fun (s : Int32 × Int32 × mm_M) => match s with
| (v2, v3, m4) => (if (m4 12 0 78) ≤ v3 then (some (.inr (v2, m4)))
else (if mm_in v3 6 then (
if (m4 125 0 v3.toNatClampNeg) = (-1) then (mm_let (v3 + 1) fun v5 =>
some (.inl (v2, v5, m4)))
else (if mm_in v3 6 then (
if ((m4 125 0 v3.toNatClampNeg) &&& a1) ≠ 0 then (if mm_in v3 6 then (
if mm_in v3 6 then (
mm_b1 (f_X12_tellWays (m4 117 0 v3.toNatClampNeg) (m4 118 0 v3.toNatClampNeg) a1 m4) fun m7 =>
if (m7 12 0 79) ≠ 0 then (mm_let (v2 ||| 0) fun v8 =>
mm_let (v3 + 1) fun v9 =>
some (.inl (v8, v9, m7)))
else (mm_let (v2 ||| (1 <<< (v3 &&& 31))) fun v10 =>
mm_let (v3 + 1) fun v11 =>
some (.inl (v10, v11, m7)))) else none) else none)
else (mm_let (v3 + 1) fun v12 =>
some (.inl (v2, v12, m4)))) else none)) else none) : Option ((Int32 × Int32 × mm_M) ⊕ ((Int32 × mm_M))))) mm_fu (0, 0, m)) fun t => match t with
| (v13, m14) => some (v13, m14))
set_option maxHeartbeats 4000000 in
set_option maxRecDepth 100000 in
theorem k_X12_lostBy (d : Nat) (hd : 18 ≤ d) (a1 : Int32) (m : mm_M) (r : Int32 × mm_M) (hres : f_X12_lostBy a1 m = some r) : mm_X d 245 [.inr (.inr (some (12, 0))), .inl a1] m (.inl (some (.inl r.1)), r.2, 0, 0) := by
  unfold f_X12_lostBy at hres
  obtain ⟨d, rfl⟩ : ∃ e, d = e + 1 := ⟨d - 1, by omega⟩
  show mm_E (d + 1) 245 (0, [some (.inr (.inr (some (12, 0)))), some (.inl a1), none, none], [], m) (.inl (some (.inl r.1)), r.2, 0, 0)
  refine e_steps 4 (s' := (4, [some (.inr (.inr (some (12, 0)))), some (.inl a1), some (.inl 0), some (.inl 0)], [], m)) rfl ?_
  refine e_mask (L' := [some (.inr (.inr (some (12, 0)))), some (.inl a1), some (.inl 0), some (.inl 0)]) rfl ?_
  refine e_loopb (φ := fun s => (4, [some (.inr (.inr (some (12, 0)))), some (.inl a1), some (.inl s.1), some (.inl s.2.1)], [], s.2.2)) (K := fun t => mm_E (d + 1) 245 (76, [none, none, some (.inl t.1), none], [], t.2) (.inl (some (.inl r.1)), r.2, 0, 0)) hres (fun t hres => ?_) (fun s ol1 hres hcl1 hxl1 => ?_)
  · obtain ⟨v13, m14⟩ := t
    show mm_E (d + 1) 245 (76, [none, none, some (.inl v13), none], [], m14) (.inl (some (.inl r.1)), r.2, 0, 0)
    refine e_steps 1 (s' := (77, [none, none, some (.inl v13), none], [.inl v13], m14)) rfl ?_
    obtain rfl := Option.some.inj hres
    exact e_ret rfl rfl
  · obtain ⟨v2, v3, m4⟩ := s
    show mm_E (d + 1) 245 (4, [some (.inr (.inr (some (12, 0)))), some (.inl a1), some (.inl v2), some (.inl v3)], [], m4) (.inl (some (.inl r.1)), r.2, 0, 0)
    refine e_steps 3 (s' := (9, [some (.inr (.inr (some (12, 0)))), some (.inl a1), some (.inl v2), some (.inl v3)], [.inl (m4 12 0 78), .inl v3], m4)) rfl ?_
    refine e_if (s1 := (76, [some (.inr (.inr (some (12, 0)))), some (.inl a1), some (.inl v2), some (.inl v3)], [], m4)) (s2 := (12, [some (.inr (.inr (some (12, 0)))), some (.inl a1), some (.inl v2), some (.inl v3)], [], m4)) rfl hres (fun hc hres => ?_) (fun hc hres => ?_)
    · obtain rfl := Option.some.inj hres
      exact e_mask (L' := [none, none, some (.inl v2), none]) rfl (hxl1 _ rfl)
    · refine e_steps 3 (s' := (17, [some (.inr (.inr (some (12, 0)))), some (.inl a1), some (.inl v2), some (.inl v3)], [.inl v3, .inr (.inr (some (125, 0)))], m4)) rfl ?_
      refine e_gd (s1 := (18, [some (.inr (.inr (some (12, 0)))), some (.inl a1), some (.inl v2), some (.inl v3)], [.inl (m4 125 0 v3.toNatClampNeg)], m4)) rfl hres (fun hc hres => ?_)
      refine e_steps 1 (s' := (19, [some (.inr (.inr (some (12, 0)))), some (.inl a1), some (.inl v2), some (.inl v3)], [.inl (-1), .inl (m4 125 0 v3.toNatClampNeg)], m4)) rfl ?_
      refine e_if (s1 := (70, [some (.inr (.inr (some (12, 0)))), some (.inl a1), some (.inl v2), some (.inl v3)], [], m4)) (s2 := (22, [some (.inr (.inr (some (12, 0)))), some (.inl a1), some (.inl v2), some (.inl v3)], [], m4)) rfl hres (fun hc hres => ?_) (fun hc hres => ?_)
      · refine e_steps 1 (s' := (73, [some (.inr (.inr (some (12, 0)))), some (.inl a1), some (.inl v2), some (.inl (v3 + 1))], [], m4)) rfl ?_
        refine e_let (fun (v5 : Int32) => (73, [some (.inr (.inr (some (12, 0)))), some (.inl a1), some (.inl v2), some (.inl v5)], [], m4)) hres (fun v5 hres => ?_)
        refine e_steps 1 (s' := (4, [some (.inr (.inr (some (12, 0)))), some (.inl a1), some (.inl v2), some (.inl v5)], [], m4)) rfl ?_
        obtain rfl := Option.some.inj hres
        exact e_mask (L' := [some (.inr (.inr (some (12, 0)))), some (.inl a1), some (.inl v2), some (.inl v5)]) rfl (hcl1 _ rfl)
      · refine e_steps 3 (s' := (27, [some (.inr (.inr (some (12, 0)))), some (.inl a1), some (.inl v2), some (.inl v3)], [.inl v3, .inr (.inr (some (125, 0)))], m4)) rfl ?_
        refine e_gd (s1 := (28, [some (.inr (.inr (some (12, 0)))), some (.inl a1), some (.inl v2), some (.inl v3)], [.inl (m4 125 0 v3.toNatClampNeg)], m4)) rfl hres (fun hc hres => ?_)
        refine e_steps 2 (s' := (30, [some (.inr (.inr (some (12, 0)))), some (.inl a1), some (.inl v2), some (.inl v3)], [.inl ((m4 125 0 v3.toNatClampNeg) &&& a1)], m4)) rfl ?_
        refine e_if (s1 := (36, [some (.inr (.inr (some (12, 0)))), some (.inl a1), some (.inl v2), some (.inl v3)], [], m4)) (s2 := (33, [some (.inr (.inr (some (12, 0)))), some (.inl a1), some (.inl v2), some (.inl v3)], [], m4)) rfl hres (fun hc hres => ?_) (fun hc hres => ?_)
        · refine e_steps 4 (s' := (42, [some (.inr (.inr (some (12, 0)))), some (.inl a1), some (.inl v2), some (.inl v3)], [.inl v3, .inr (.inr (some (117, 0))), .inr (.inr (some (12, 0)))], m4)) rfl ?_
          refine e_gd (s1 := (43, [some (.inr (.inr (some (12, 0)))), some (.inl a1), some (.inl v2), some (.inl v3)], [.inl (m4 117 0 v3.toNatClampNeg), .inr (.inr (some (12, 0)))], m4)) rfl hres (fun hc hres => ?_)
          refine e_steps 3 (s' := (48, [some (.inr (.inr (some (12, 0)))), some (.inl a1), some (.inl v2), some (.inl v3)], [.inl v3, .inr (.inr (some (118, 0))), .inl (m4 117 0 v3.toNatClampNeg), .inr (.inr (some (12, 0)))], m4)) rfl ?_
          refine e_gd (s1 := (49, [some (.inr (.inr (some (12, 0)))), some (.inl a1), some (.inl v2), some (.inl v3)], [.inl (m4 118 0 v3.toNatClampNeg), .inl (m4 117 0 v3.toNatClampNeg), .inr (.inr (some (12, 0)))], m4)) rfl hres (fun hc hres => ?_)
          refine e_steps 1 (s' := (50, [some (.inr (.inr (some (12, 0)))), some (.inl a1), some (.inl v2), some (.inl v3)], [.inl a1, .inl (m4 118 0 v3.toNatClampNeg), .inl (m4 117 0 v3.toNatClampNeg), .inr (.inr (some (12, 0)))], m4)) rfl ?_
          obtain ⟨m7, hv, hres⟩ := mm_b1_some hres
          refine e_call0 (pc := 53) (L := [some (.inr (.inr (some (12, 0)))), some (.inl a1), some (.inl v2), some (.inl v3)]) (st := []) (m' := m7) (v := none) rfl (k_X12_tellWays d (by omega) (m4 117 0 v3.toNatClampNeg) (m4 118 0 v3.toNatClampNeg) a1 _ _ hv) ?_
          show mm_E (d + 1) 245 (53, [some (.inr (.inr (some (12, 0)))), some (.inl a1), some (.inl v2), some (.inl v3)], [], m7) (.inl (some (.inl r.1)), r.2, 0, 0)
          refine e_steps 3 (s' := (58, [some (.inr (.inr (some (12, 0)))), some (.inl a1), some (.inl v2), some (.inl v3)], [.inl (m7 12 0 79), .inl v2], m7)) rfl ?_
          refine e_if (s1 := (67, [some (.inr (.inr (some (12, 0)))), some (.inl a1), some (.inl v2), some (.inl v3)], [.inl v2], m7)) (s2 := (61, [some (.inr (.inr (some (12, 0)))), some (.inl a1), some (.inl v2), some (.inl v3)], [.inl v2], m7)) rfl hres (fun hc hres => ?_) (fun hc hres => ?_)
          · refine e_steps 1 (s' := (68, [some (.inr (.inr (some (12, 0)))), some (.inl a1), some (.inl v2), some (.inl v3)], [.inl 0, .inl v2], m7)) rfl ?_
            refine e_mask (L' := [some (.inr (.inr (some (12, 0)))), some (.inl a1), none, some (.inl v3)]) rfl ?_
            refine e_steps 2 (s' := (70, [some (.inr (.inr (some (12, 0)))), some (.inl a1), some (.inl (v2 ||| 0)), some (.inl v3)], [], m7)) rfl ?_
            refine e_let (fun (v8 : Int32) => (70, [some (.inr (.inr (some (12, 0)))), some (.inl a1), some (.inl v8), some (.inl v3)], [], m7)) hres (fun v8 hres => ?_)
            refine e_steps 1 (s' := (73, [some (.inr (.inr (some (12, 0)))), some (.inl a1), some (.inl v8), some (.inl (v3 + 1))], [], m7)) rfl ?_
            refine e_let (fun (v9 : Int32) => (73, [some (.inr (.inr (some (12, 0)))), some (.inl a1), some (.inl v8), some (.inl v9)], [], m7)) hres (fun v9 hres => ?_)
            refine e_steps 1 (s' := (4, [some (.inr (.inr (some (12, 0)))), some (.inl a1), some (.inl v8), some (.inl v9)], [], m7)) rfl ?_
            obtain rfl := Option.some.inj hres
            exact e_mask (L' := [some (.inr (.inr (some (12, 0)))), some (.inl a1), some (.inl v8), some (.inl v9)]) rfl (hcl1 _ rfl)
          · refine e_steps 4 (s' := (68, [some (.inr (.inr (some (12, 0)))), some (.inl a1), some (.inl v2), some (.inl v3)], [.inl (1 <<< (v3 &&& 31)), .inl v2], m7)) rfl ?_
            refine e_mask (L' := [some (.inr (.inr (some (12, 0)))), some (.inl a1), none, some (.inl v3)]) rfl ?_
            refine e_steps 2 (s' := (70, [some (.inr (.inr (some (12, 0)))), some (.inl a1), some (.inl (v2 ||| (1 <<< (v3 &&& 31)))), some (.inl v3)], [], m7)) rfl ?_
            refine e_let (fun (v10 : Int32) => (70, [some (.inr (.inr (some (12, 0)))), some (.inl a1), some (.inl v10), some (.inl v3)], [], m7)) hres (fun v10 hres => ?_)
            refine e_steps 1 (s' := (73, [some (.inr (.inr (some (12, 0)))), some (.inl a1), some (.inl v10), some (.inl (v3 + 1))], [], m7)) rfl ?_
            refine e_let (fun (v11 : Int32) => (73, [some (.inr (.inr (some (12, 0)))), some (.inl a1), some (.inl v10), some (.inl v11)], [], m7)) hres (fun v11 hres => ?_)
            refine e_steps 1 (s' := (4, [some (.inr (.inr (some (12, 0)))), some (.inl a1), some (.inl v10), some (.inl v11)], [], m7)) rfl ?_
            obtain rfl := Option.some.inj hres
            exact e_mask (L' := [some (.inr (.inr (some (12, 0)))), some (.inl a1), some (.inl v10), some (.inl v11)]) rfl (hcl1 _ rfl)
        · refine e_steps 2 (s' := (73, [some (.inr (.inr (some (12, 0)))), some (.inl a1), some (.inl v2), some (.inl (v3 + 1))], [], m4)) rfl ?_
          refine e_let (fun (v12 : Int32) => (73, [some (.inr (.inr (some (12, 0)))), some (.inl a1), some (.inl v2), some (.inl v12)], [], m4)) hres (fun v12 hres => ?_)
          refine e_steps 1 (s' := (4, [some (.inr (.inr (some (12, 0)))), some (.inl a1), some (.inl v2), some (.inl v12)], [], m4)) rfl ?_
          obtain rfl := Option.some.inj hres
          exact e_mask (L' := [some (.inr (.inr (some (12, 0)))), some (.inl a1), some (.inl v2), some (.inl v12)]) rfl (hcl1 _ rfl)
/-- GlassThreadsModel.lost(I)I -/
def f_X12_lost (a1 : Int32) (m : mm_M) : Option (Int32 × mm_M) :=
mm_let (mm_w m 12 0 3 0) fun m1 =>
mm_b1 (f_X12_tellTaskWays m1) fun m3 =>
mm_b2 (f_X12_lostBy (a1 &&& ((1 <<< ((m3 12 0 77) &&& 31)) - 1)) m3) fun r4 m5 =>
some (r4, m5)
set_option maxHeartbeats 4000000 in
set_option maxRecDepth 100000 in
theorem k_X12_lost (d : Nat) (hd : 19 ≤ d) (a1 : Int32) (m : mm_M) (r : Int32 × mm_M) (hres : f_X12_lost a1 m = some r) : mm_X d 246 [.inr (.inr (some (12, 0))), .inl a1] m (.inl (some (.inl r.1)), r.2, 0, 0) := by
  unfold f_X12_lost at hres
  obtain ⟨d, rfl⟩ : ∃ e, d = e + 1 := ⟨d - 1, by omega⟩
  show mm_E (d + 1) 246 (0, [some (.inr (.inr (some (12, 0)))), some (.inl a1)], [], m) (.inl (some (.inl r.1)), r.2, 0, 0)
  refine e_steps 3 (s' := (5, [some (.inr (.inr (some (12, 0)))), some (.inl a1)], [], (mm_w m 12 0 3 0))) rfl ?_
  refine e_let (fun (m1 : mm_M) => (5, [some (.inr (.inr (some (12, 0)))), some (.inl a1)], [], m1)) hres (fun m1 hres => ?_)
  refine e_steps 1 (s' := (6, [some (.inr (.inr (some (12, 0)))), some (.inl a1)], [.inr (.inr (some (12, 0)))], m1)) rfl ?_
  obtain ⟨m3, hv, hres⟩ := mm_b1_some hres
  refine e_call0 (pc := 9) (L := [some (.inr (.inr (some (12, 0)))), some (.inl a1)]) (st := []) (m' := m3) (v := none) rfl (k_X12_tellTaskWays d (by omega)  _ _ hv) ?_
  show mm_E (d + 1) 246 (9, [some (.inr (.inr (some (12, 0)))), some (.inl a1)], [], m3) (.inl (some (.inl r.1)), r.2, 0, 0)
  refine e_steps 9 (s' := (20, [some (.inr (.inr (some (12, 0)))), some (.inl a1)], [.inl (a1 &&& ((1 <<< ((m3 12 0 77) &&& 31)) - 1)), .inr (.inr (some (12, 0)))], m3)) rfl ?_
  obtain ⟨r4, m5, hv, hres⟩ := mm_b2_some hres
  refine e_call0 (pc := 23) (L := [some (.inr (.inr (some (12, 0)))), some (.inl a1)]) (st := []) (m' := m5) (v := some (.inl r4)) rfl (k_X12_lostBy d (by omega) (a1 &&& ((1 <<< ((m3 12 0 77) &&& 31)) - 1)) _ _ hv) ?_
  show mm_E (d + 1) 246 (23, [some (.inr (.inr (some (12, 0)))), some (.inl a1)], [.inl r4], m5) (.inl (some (.inl r.1)), r.2, 0, 0)
  obtain rfl := Option.some.inj hres
  exact e_ret rfl rfl
/-- GlassThreadsModel.many(I)I -/
def f_X12_many (a0 : Int32) (m : mm_M) : Option (Int32) :=
(mm_b1 (mm_loop (σ := Int32 × Int32) (ρ := (Int32)) (fun (s : Int32 × Int32) => match s with
| (v2, v3) => (if 12 ≤ v3 then (some (.inr v2))
else (mm_let (v2 + ((a0 >>> (v3 &&& 31)) &&& 1)) fun v4 =>
mm_let (v3 + 1) fun v5 =>
some (.inl (v4, v5))) : Option ((Int32 × Int32) ⊕ ((Int32))))) mm_fu (0, 0)) fun v6 =>
some v6)
set_option maxHeartbeats 4000000 in
set_option maxRecDepth 100000 in
theorem k_X12_many (d : Nat) (hd : 0 ≤ d) (a0 : Int32) (m : mm_M) (r : Int32) (hres : f_X12_many a0 m = some r) : mm_X d 247 [.inl a0] m (.inl (some (.inl r)), m, 0, 0) := by
  unfold f_X12_many at hres
  show mm_E d 247 (0, [some (.inl a0), none, none], [], m) (.inl (some (.inl r)), m, 0, 0)
  refine e_steps 4 (s' := (4, [some (.inl a0), some (.inl 0), some (.inl 0)], [], m)) rfl ?_
  refine e_mask (L' := [some (.inl a0), some (.inl 0), some (.inl 0)]) rfl ?_
  refine e_loopb (φ := fun s => (4, [some (.inl a0), some (.inl s.1), some (.inl s.2)], [], m)) (K := fun t => mm_E d 247 (24, [none, some (.inl t), none], [], m) (.inl (some (.inl r)), m, 0, 0)) hres (fun v6 hres => ?_) (fun s ol1 hres hcl1 hxl1 => ?_)
  · show mm_E d 247 (24, [none, some (.inl v6), none], [], m) (.inl (some (.inl r)), m, 0, 0)
    refine e_steps 1 (s' := (25, [none, some (.inl v6), none], [.inl v6], m)) rfl ?_
    obtain rfl := Option.some.inj hres
    exact e_ret rfl rfl
  · obtain ⟨v2, v3⟩ := s
    show mm_E d 247 (4, [some (.inl a0), some (.inl v2), some (.inl v3)], [], m) (.inl (some (.inl r)), m, 0, 0)
    refine e_steps 2 (s' := (7, [some (.inl a0), some (.inl v2), some (.inl v3)], [.inl 12, .inl v3], m)) rfl ?_
    refine e_if (s1 := (24, [some (.inl a0), some (.inl v2), some (.inl v3)], [], m)) (s2 := (10, [some (.inl a0), some (.inl v2), some (.inl v3)], [], m)) rfl hres (fun hc hres => ?_) (fun hc hres => ?_)
    · obtain rfl := Option.some.inj hres
      exact e_mask (L' := [none, some (.inl v2), none]) rfl (hxl1 _ rfl)
    · refine e_steps 8 (s' := (18, [some (.inl a0), some (.inl (v2 + ((a0 >>> (v3 &&& 31)) &&& 1))), some (.inl v3)], [], m)) rfl ?_
      refine e_let (fun (v4 : Int32) => (18, [some (.inl a0), some (.inl v4), some (.inl v3)], [], m)) hres (fun v4 hres => ?_)
      refine e_steps 1 (s' := (21, [some (.inl a0), some (.inl v4), some (.inl (v3 + 1))], [], m)) rfl ?_
      refine e_let (fun (v5 : Int32) => (21, [some (.inl a0), some (.inl v4), some (.inl v5)], [], m)) hres (fun v5 hres => ?_)
      refine e_steps 1 (s' := (4, [some (.inl a0), some (.inl v4), some (.inl v5)], [], m)) rfl ?_
      obtain rfl := Option.some.inj hres
      exact e_mask (L' := [some (.inl a0), some (.inl v4), some (.inl v5)]) rfl (hcl1 _ rfl)
/-- GlassThreadsModel.worst(I)I -/
def f_X12_worst (a1 : Int32) (m : mm_M) : Option (Int32 × mm_M) :=
mm_let (mm_w m 12 0 3 0) fun m1 =>
if a1 < 1 then (mm_b2 (f_X12_fail 1 m1) fun r2 m3 =>
some (r2, m3))
else (if a1 ≤ 2 then (mm_b1 (f_X12_tellTaskWays m1) fun m5 =>
(mm_b1 (mm_loop (σ := Int32 × Int32 × Int32 × mm_M) (ρ := (Int32 × mm_M)) (fun (s : Int32 × Int32 × Int32 × mm_M) => match s with
| (v7, v8, v9, m10) => (if (m10 12 0 77) ≤ v9 then (some (.inr (v7, m10)))
else (if a1 ≠ 1 then (mm_let (v9 + 1) fun v11 =>
(mm_b1 (mm_loop (σ := Int32 × Int32 × Int32 × mm_M) (ρ := (Int32 × Int32 × mm_M)) (fun (s : Int32 × Int32 × Int32 × mm_M) => match s with
| (v13, v14, v15, m16) => (mm_let (fun (w17 : Int32) => (if w17 ≤ v15 then (some (.inr (v13, v14, m16)))
else (mm_let ((1 <<< (v9 &&& 31)) ||| (1 <<< (v15 &&& 31))) fun v19 =>
mm_b2 (f_X12_lostBy v19 m16) fun r20 m21 =>
mm_b1 (f_X12_many r20 m21) fun r22 =>
if v14 < r22 then (mm_let (v15 + 1) fun v23 =>
some (.inl (v19, r22, v23, m21)))
else (mm_let (v15 + 1) fun v24 =>
some (.inl (v13, v14, v24, m21)))) : Option ((Int32 × Int32 × Int32 × mm_M) ⊕ ((Int32 × Int32 × mm_M))))) fun k18 =>
if a1 ≠ 1 then (k18 (m16 12 0 77))
else (k18 (v9 + 1)) : Option ((Int32 × Int32 × Int32 × mm_M) ⊕ ((Int32 × Int32 × mm_M))))) mm_fu (v7, v8, v11, m10)) fun t => match t with
| (v25, v26, m27) => mm_let (v9 + 1) fun v28 =>
some (.inl (v25, v26, v28, m27))))
else ((mm_b1 (mm_loop (σ := Int32 × Int32 × Int32 × mm_M) (ρ := (Int32 × Int32 × mm_M)) (fun (s : Int32 × Int32 × Int32 × mm_M) => match s with
| (v30, v31, v32, m33) => (mm_let (fun (w34 : Int32) => (if w34 ≤ v32 then (some (.inr (v30, v31, m33)))
else (mm_let ((1 <<< (v9 &&& 31)) ||| (1 <<< (v32 &&& 31))) fun v36 =>
mm_b2 (f_X12_lostBy v36 m33) fun r37 m38 =>
mm_b1 (f_X12_many r37 m38) fun r39 =>
if v31 < r39 then (mm_let (v32 + 1) fun v40 =>
some (.inl (v36, r39, v40, m38)))
else (mm_let (v32 + 1) fun v41 =>
some (.inl (v30, v31, v41, m38)))) : Option ((Int32 × Int32 × Int32 × mm_M) ⊕ ((Int32 × Int32 × mm_M))))) fun k35 =>
if a1 ≠ 1 then (k35 (m33 12 0 77))
else (k35 (v9 + 1)) : Option ((Int32 × Int32 × Int32 × mm_M) ⊕ ((Int32 × Int32 × mm_M))))) mm_fu (v7, v8, v9, m10)) fun t => match t with
| (v42, v43, m44) => mm_let (v9 + 1) fun v45 =>
some (.inl (v42, v43, v45, m44))))) : Option ((Int32 × Int32 × Int32 × mm_M) ⊕ ((Int32 × mm_M))))) mm_fu (0, 0, 0, m5)) fun t => match t with
| (v46, m47) => some (v46, m47)))
else (mm_b2 (f_X12_fail 1 m1) fun r48 m49 =>
some (r48, m49)))
set_option maxHeartbeats 4000000 in
set_option maxRecDepth 100000 in
theorem k_X12_worst (d : Nat) (hd : 19 ≤ d) (a1 : Int32) (m : mm_M) (r : Int32 × mm_M) (hres : f_X12_worst a1 m = some r) : mm_X d 248 [.inr (.inr (some (12, 0))), .inl a1] m (.inl (some (.inl r.1)), r.2, 0, 0) := by
  unfold f_X12_worst at hres
  obtain ⟨d, rfl⟩ : ∃ e, d = e + 1 := ⟨d - 1, by omega⟩
  show mm_E (d + 1) 248 (0, [some (.inr (.inr (some (12, 0)))), some (.inl a1), none, none, none, none, none, none], [], m) (.inl (some (.inl r.1)), r.2, 0, 0)
  refine e_steps 3 (s' := (5, [some (.inr (.inr (some (12, 0)))), some (.inl a1), none, none, none, none, none, none], [], (mm_w m 12 0 3 0))) rfl ?_
  refine e_let (fun (m1 : mm_M) => (5, [some (.inr (.inr (some (12, 0)))), some (.inl a1), none, none, none, none, none, none], [], m1)) hres (fun m1 hres => ?_)
  refine e_steps 2 (s' := (7, [some (.inr (.inr (some (12, 0)))), some (.inl a1), none, none, none, none, none, none], [.inl 1, .inl a1], m1)) rfl ?_
  refine e_if (s1 := (15, [some (.inr (.inr (some (12, 0)))), some (.inl a1), none, none, none, none, none, none], [], m1)) (s2 := (10, [some (.inr (.inr (some (12, 0)))), some (.inl a1), none, none, none, none, none, none], [], m1)) rfl hres (fun hc hres => ?_) (fun hc hres => ?_)
  · refine e_mask (L' := [some (.inr (.inr (some (12, 0)))), none, none, none, none, none, none, none]) rfl ?_
    refine e_steps 2 (s' := (17, [some (.inr (.inr (some (12, 0)))), none, none, none, none, none, none, none], [.inl 1, .inr (.inr (some (12, 0)))], m1)) rfl ?_
    obtain ⟨r2, m3, hv, hres⟩ := mm_b2_some hres
    refine e_call0 (pc := 20) (L := [some (.inr (.inr (some (12, 0)))), none, none, none, none, none, none, none]) (st := []) (m' := m3) (v := some (.inl r2)) rfl (k_X12_fail d (by omega) 1 _ _ hv) ?_
    show mm_E (d + 1) 248 (20, [some (.inr (.inr (some (12, 0)))), none, none, none, none, none, none, none], [.inl r2], m3) (.inl (some (.inl r.1)), r.2, 0, 0)
    obtain rfl := Option.some.inj hres
    exact e_ret rfl rfl
  · refine e_steps 2 (s' := (12, [some (.inr (.inr (some (12, 0)))), some (.inl a1), none, none, none, none, none, none], [.inl 2, .inl a1], m1)) rfl ?_
    refine e_if (s1 := (21, [some (.inr (.inr (some (12, 0)))), some (.inl a1), none, none, none, none, none, none], [], m1)) (s2 := (15, [some (.inr (.inr (some (12, 0)))), some (.inl a1), none, none, none, none, none, none], [], m1)) rfl hres (fun hc hres => ?_) (fun hc hres => ?_)
    · refine e_steps 1 (s' := (22, [some (.inr (.inr (some (12, 0)))), some (.inl a1), none, none, none, none, none, none], [.inr (.inr (some (12, 0)))], m1)) rfl ?_
      obtain ⟨m5, hv, hres⟩ := mm_b1_some hres
      refine e_call0 (pc := 25) (L := [some (.inr (.inr (some (12, 0)))), some (.inl a1), none, none, none, none, none, none]) (st := []) (m' := m5) (v := none) rfl (k_X12_tellTaskWays d (by omega)  _ _ hv) ?_
      show mm_E (d + 1) 248 (25, [some (.inr (.inr (some (12, 0)))), some (.inl a1), none, none, none, none, none, none], [], m5) (.inl (some (.inl r.1)), r.2, 0, 0)
      refine e_steps 6 (s' := (32, [some (.inr (.inr (some (12, 0)))), some (.inl a1), some (.inl 0), some (.inl 0), some (.inl 0), none, none, none], [], m5)) rfl ?_
      refine e_mask (L' := [some (.inr (.inr (some (12, 0)))), some (.inl a1), some (.inl 0), some (.inl 0), some (.inl 0), none, none, none]) rfl ?_
      refine e_loopb (φ := fun s => (32, [some (.inr (.inr (some (12, 0)))), some (.inl a1), some (.inl s.1), some (.inl s.2.1), some (.inl s.2.2.1), none, none, none], [], s.2.2.2)) (K := fun t => mm_E (d + 1) 248 (127, [none, none, some (.inl t.1), none, none, none, none, none], [], t.2) (.inl (some (.inl r.1)), r.2, 0, 0)) hres (fun t hres => ?_) (fun s ol6 hres hcl6 hxl6 => ?_)
      · obtain ⟨v46, m47⟩ := t
        show mm_E (d + 1) 248 (127, [none, none, some (.inl v46), none, none, none, none, none], [], m47) (.inl (some (.inl r.1)), r.2, 0, 0)
        refine e_steps 1 (s' := (128, [none, none, some (.inl v46), none, none, none, none, none], [.inl v46], m47)) rfl ?_
        obtain rfl := Option.some.inj hres
        exact e_ret rfl rfl
      · obtain ⟨v7, v8, v9, m10⟩ := s
        show mm_E (d + 1) 248 (32, [some (.inr (.inr (some (12, 0)))), some (.inl a1), some (.inl v7), some (.inl v8), some (.inl v9), none, none, none], [], m10) (.inl (some (.inl r.1)), r.2, 0, 0)
        refine e_steps 3 (s' := (38, [some (.inr (.inr (some (12, 0)))), some (.inl a1), some (.inl v7), some (.inl v8), some (.inl v9), none, none, none], [.inl (m10 12 0 77), .inl v9], m10)) rfl ?_
        refine e_if (s1 := (127, [some (.inr (.inr (some (12, 0)))), some (.inl a1), some (.inl v7), some (.inl v8), some (.inl v9), none, none, none], [], m10)) (s2 := (41, [some (.inr (.inr (some (12, 0)))), some (.inl a1), some (.inl v7), some (.inl v8), some (.inl v9), none, none, none], [], m10)) rfl hres (fun hc hres => ?_) (fun hc hres => ?_)
        · obtain rfl := Option.some.inj hres
          exact e_mask (L' := [none, none, some (.inl v7), none, none, none, none, none]) rfl (hxl6 _ rfl)
        · refine e_steps 2 (s' := (43, [some (.inr (.inr (some (12, 0)))), some (.inl a1), some (.inl v7), some (.inl v8), some (.inl v9), none, none, none], [.inl 1, .inl a1], m10)) rfl ?_
          refine e_if (s1 := (51, [some (.inr (.inr (some (12, 0)))), some (.inl a1), some (.inl v7), some (.inl v8), some (.inl v9), none, none, none], [], m10)) (s2 := (46, [some (.inr (.inr (some (12, 0)))), some (.inl a1), some (.inl v7), some (.inl v8), some (.inl v9), none, none, none], [], m10)) rfl hres (fun hc hres => ?_) (fun hc hres => ?_)
          · refine e_steps 4 (s' := (57, [some (.inr (.inr (some (12, 0)))), some (.inl a1), some (.inl v7), some (.inl v8), some (.inl v9), some (.inl (v9 + 1)), none, none], [], m10)) rfl ?_
            refine e_let (fun (v11 : Int32) => (57, [some (.inr (.inr (some (12, 0)))), some (.inl a1), some (.inl v7), some (.inl v8), some (.inl v9), some (.inl v11), none, none], [], m10)) hres (fun v11 hres => ?_)
            refine e_mask (L' := [some (.inr (.inr (some (12, 0)))), some (.inl a1), some (.inl v7), some (.inl v8), some (.inl v9), some (.inl v11), none, none]) rfl ?_
            refine e_loopb (φ := fun s => (57, [some (.inr (.inr (some (12, 0)))), some (.inl a1), some (.inl s.1), some (.inl s.2.1), some (.inl v9), some (.inl s.2.2.1), none, none], [], s.2.2.2)) (K := fun t => mm_E (d + 1) 248 (121, [some (.inr (.inr (some (12, 0)))), some (.inl a1), some (.inl t.1), some (.inl t.2.1), some (.inl v9), none, none, none], [], t.2.2) (.inl (some (.inl r.1)), r.2, 0, 0)) hres (fun t hres => ?_) (fun s ol12 hres hcl12 hxl12 => ?_)
            · obtain ⟨v25, v26, m27⟩ := t
              show mm_E (d + 1) 248 (121, [some (.inr (.inr (some (12, 0)))), some (.inl a1), some (.inl v25), some (.inl v26), some (.inl v9), none, none, none], [], m27) (.inl (some (.inl r.1)), r.2, 0, 0)
              refine e_steps 1 (s' := (124, [some (.inr (.inr (some (12, 0)))), some (.inl a1), some (.inl v25), some (.inl v26), some (.inl (v9 + 1)), none, none, none], [], m27)) rfl ?_
              refine e_let (fun (v28 : Int32) => (124, [some (.inr (.inr (some (12, 0)))), some (.inl a1), some (.inl v25), some (.inl v26), some (.inl v28), none, none, none], [], m27)) hres (fun v28 hres => ?_)
              refine e_steps 1 (s' := (32, [some (.inr (.inr (some (12, 0)))), some (.inl a1), some (.inl v25), some (.inl v26), some (.inl v28), none, none, none], [], m27)) rfl ?_
              obtain rfl := Option.some.inj hres
              exact e_mask (L' := [some (.inr (.inr (some (12, 0)))), some (.inl a1), some (.inl v25), some (.inl v26), some (.inl v28), none, none, none]) rfl (hcl6 _ rfl)
            · obtain ⟨v13, v14, v15, m16⟩ := s
              show mm_E (d + 1) 248 (57, [some (.inr (.inr (some (12, 0)))), some (.inl a1), some (.inl v13), some (.inl v14), some (.inl v9), some (.inl v15), none, none], [], m16) (.inl (some (.inl r.1)), r.2, 0, 0)
              refine e_steps 3 (s' := (61, [some (.inr (.inr (some (12, 0)))), some (.inl a1), some (.inl v13), some (.inl v14), some (.inl v9), some (.inl v15), none, none], [.inl 1, .inl a1, .inl v15], m16)) rfl ?_
              refine e_join (fun k18 => ∀ (w17 : Int32), k18 w17 = some ol12 → mm_E (d + 1) 248 (75, [some (.inr (.inr (some (12, 0)))), some (.inl a1), some (.inl v13), some (.inl v14), some (.inl v9), some (.inl v15), none, none], [.inl w17, .inl v15], m16) (.inl (some (.inl r.1)), r.2, 0, 0)) hres (fun w17 hres => ?_) (fun k18 hk18 hres => ?_)
              · refine e_if (s1 := (121, [some (.inr (.inr (some (12, 0)))), some (.inl a1), some (.inl v13), some (.inl v14), some (.inl v9), some (.inl v15), none, none], [], m16)) (s2 := (78, [some (.inr (.inr (some (12, 0)))), some (.inl a1), some (.inl v13), some (.inl v14), some (.inl v9), some (.inl v15), none, none], [], m16)) rfl hres (fun hc hres => ?_) (fun hc hres => ?_)
                · obtain rfl := Option.some.inj hres
                  exact e_mask (L' := [some (.inr (.inr (some (12, 0)))), some (.inl a1), some (.inl v13), some (.inl v14), some (.inl v9), none, none, none]) rfl (hxl12 _ rfl)
                · refine e_steps 8 (s' := (89, [some (.inr (.inr (some (12, 0)))), some (.inl a1), some (.inl v13), some (.inl v14), some (.inl v9), some (.inl v15), some (.inl ((1 <<< (v9 &&& 31)) ||| (1 <<< (v15 &&& 31)))), none], [], m16)) rfl ?_
                  refine e_let (fun (v19 : Int32) => (89, [some (.inr (.inr (some (12, 0)))), some (.inl a1), some (.inl v13), some (.inl v14), some (.inl v9), some (.inl v15), some (.inl v19), none], [], m16)) hres (fun v19 hres => ?_)
                  refine e_steps 2 (s' := (92, [some (.inr (.inr (some (12, 0)))), some (.inl a1), some (.inl v13), some (.inl v14), some (.inl v9), some (.inl v15), some (.inl v19), none], [.inl v19, .inr (.inr (some (12, 0)))], m16)) rfl ?_
                  obtain ⟨r20, m21, hv, hres⟩ := mm_b2_some hres
                  refine e_call0 (pc := 95) (L := [some (.inr (.inr (some (12, 0)))), some (.inl a1), some (.inl v13), some (.inl v14), some (.inl v9), some (.inl v15), some (.inl v19), none]) (st := []) (m' := m21) (v := some (.inl r20)) rfl (k_X12_lostBy d (by omega) v19 _ _ hv) ?_
                  show mm_E (d + 1) 248 (95, [some (.inr (.inr (some (12, 0)))), some (.inl a1), some (.inl v13), some (.inl v14), some (.inl v9), some (.inl v15), some (.inl v19), none], [.inl r20], m21) (.inl (some (.inl r.1)), r.2, 0, 0)
                  obtain ⟨r22, hv, hres⟩ := mm_b1_some hres
                  refine e_call0 (pc := 98) (L := [some (.inr (.inr (some (12, 0)))), some (.inl a1), some (.inl v13), some (.inl v14), some (.inl v9), some (.inl v15), some (.inl v19), none]) (st := []) (m' := m21) (v := some (.inl r22)) rfl (k_X12_many d (by omega) r20 _ _ hv) ?_
                  show mm_E (d + 1) 248 (98, [some (.inr (.inr (some (12, 0)))), some (.inl a1), some (.inl v13), some (.inl v14), some (.inl v9), some (.inl v15), some (.inl v19), none], [.inl r22], m21) (.inl (some (.inl r.1)), r.2, 0, 0)
                  refine e_steps 3 (s' := (103, [some (.inr (.inr (some (12, 0)))), some (.inl a1), some (.inl v13), some (.inl v14), some (.inl v9), some (.inl v15), some (.inl v19), some (.inl r22)], [.inl v14, .inl r22], m21)) rfl ?_
                  refine e_if (s1 := (109, [some (.inr (.inr (some (12, 0)))), some (.inl a1), some (.inl v13), some (.inl v14), some (.inl v9), some (.inl v15), some (.inl v19), some (.inl r22)], [], m21)) (s2 := (106, [some (.inr (.inr (some (12, 0)))), some (.inl a1), some (.inl v13), some (.inl v14), some (.inl v9), some (.inl v15), some (.inl v19), some (.inl r22)], [], m21)) rfl hres (fun hc hres => ?_) (fun hc hres => ?_)
                  · refine e_steps 4 (s' := (115, [some (.inr (.inr (some (12, 0)))), some (.inl a1), some (.inl v19), some (.inl r22), some (.inl v9), some (.inl v15), some (.inl v19), some (.inl r22)], [], m21)) rfl ?_
                    refine e_mask (L' := [some (.inr (.inr (some (12, 0)))), some (.inl a1), some (.inl v19), some (.inl r22), some (.inl v9), some (.inl v15), none, none]) rfl ?_
                    refine e_steps 1 (s' := (118, [some (.inr (.inr (some (12, 0)))), some (.inl a1), some (.inl v19), some (.inl r22), some (.inl v9), some (.inl (v15 + 1)), none, none], [], m21)) rfl ?_
                    refine e_let (fun (v23 : Int32) => (118, [some (.inr (.inr (some (12, 0)))), some (.inl a1), some (.inl v19), some (.inl r22), some (.inl v9), some (.inl v23), none, none], [], m21)) hres (fun v23 hres => ?_)
                    refine e_steps 1 (s' := (57, [some (.inr (.inr (some (12, 0)))), some (.inl a1), some (.inl v19), some (.inl r22), some (.inl v9), some (.inl v23), none, none], [], m21)) rfl ?_
                    obtain rfl := Option.some.inj hres
                    exact e_mask (L' := [some (.inr (.inr (some (12, 0)))), some (.inl a1), some (.inl v19), some (.inl r22), some (.inl v9), some (.inl v23), none, none]) rfl (hcl12 _ rfl)
                  · refine e_steps 1 (s' := (115, [some (.inr (.inr (some (12, 0)))), some (.inl a1), some (.inl v13), some (.inl v14), some (.inl v9), some (.inl v15), some (.inl v19), some (.inl r22)], [], m21)) rfl ?_
                    refine e_mask (L' := [some (.inr (.inr (some (12, 0)))), some (.inl a1), some (.inl v13), some (.inl v14), some (.inl v9), some (.inl v15), none, none]) rfl ?_
                    refine e_steps 1 (s' := (118, [some (.inr (.inr (some (12, 0)))), some (.inl a1), some (.inl v13), some (.inl v14), some (.inl v9), some (.inl (v15 + 1)), none, none], [], m21)) rfl ?_
                    refine e_let (fun (v24 : Int32) => (118, [some (.inr (.inr (some (12, 0)))), some (.inl a1), some (.inl v13), some (.inl v14), some (.inl v9), some (.inl v24), none, none], [], m21)) hres (fun v24 hres => ?_)
                    refine e_steps 1 (s' := (57, [some (.inr (.inr (some (12, 0)))), some (.inl a1), some (.inl v13), some (.inl v14), some (.inl v9), some (.inl v24), none, none], [], m21)) rfl ?_
                    obtain rfl := Option.some.inj hres
                    exact e_mask (L' := [some (.inr (.inr (some (12, 0)))), some (.inl a1), some (.inl v13), some (.inl v14), some (.inl v9), some (.inl v24), none, none]) rfl (hcl12 _ rfl)
              · refine e_if (s1 := (71, [some (.inr (.inr (some (12, 0)))), some (.inl a1), some (.inl v13), some (.inl v14), some (.inl v9), some (.inl v15), none, none], [.inl v15], m16)) (s2 := (64, [some (.inr (.inr (some (12, 0)))), some (.inl a1), some (.inl v13), some (.inl v14), some (.inl v9), some (.inl v15), none, none], [.inl v15], m16)) rfl hres (fun hc hres => ?_) (fun hc hres => ?_)
                · refine e_steps 2 (s' := (75, [some (.inr (.inr (some (12, 0)))), some (.inl a1), some (.inl v13), some (.inl v14), some (.inl v9), some (.inl v15), none, none], [.inl (m16 12 0 77), .inl v15], m16)) rfl ?_
                  exact e_mask (L' := [some (.inr (.inr (some (12, 0)))), some (.inl a1), some (.inl v13), some (.inl v14), some (.inl v9), some (.inl v15), none, none]) rfl (hk18 _ hres)
                · refine e_steps 4 (s' := (75, [some (.inr (.inr (some (12, 0)))), some (.inl a1), some (.inl v13), some (.inl v14), some (.inl v9), some (.inl v15), none, none], [.inl (v9 + 1), .inl v15], m16)) rfl ?_
                  exact e_mask (L' := [some (.inr (.inr (some (12, 0)))), some (.inl a1), some (.inl v13), some (.inl v14), some (.inl v9), some (.inl v15), none, none]) rfl (hk18 _ hres)
          · refine e_steps 3 (s' := (57, [some (.inr (.inr (some (12, 0)))), some (.inl a1), some (.inl v7), some (.inl v8), some (.inl v9), some (.inl v9), none, none], [], m10)) rfl ?_
            refine e_mask (L' := [some (.inr (.inr (some (12, 0)))), some (.inl a1), some (.inl v7), some (.inl v8), some (.inl v9), some (.inl v9), none, none]) rfl ?_
            refine e_loopb (φ := fun s => (57, [some (.inr (.inr (some (12, 0)))), some (.inl a1), some (.inl s.1), some (.inl s.2.1), some (.inl v9), some (.inl s.2.2.1), none, none], [], s.2.2.2)) (K := fun t => mm_E (d + 1) 248 (121, [some (.inr (.inr (some (12, 0)))), some (.inl a1), some (.inl t.1), some (.inl t.2.1), some (.inl v9), none, none, none], [], t.2.2) (.inl (some (.inl r.1)), r.2, 0, 0)) hres (fun t hres => ?_) (fun s ol29 hres hcl29 hxl29 => ?_)
            · obtain ⟨v42, v43, m44⟩ := t
              show mm_E (d + 1) 248 (121, [some (.inr (.inr (some (12, 0)))), some (.inl a1), some (.inl v42), some (.inl v43), some (.inl v9), none, none, none], [], m44) (.inl (some (.inl r.1)), r.2, 0, 0)
              refine e_steps 1 (s' := (124, [some (.inr (.inr (some (12, 0)))), some (.inl a1), some (.inl v42), some (.inl v43), some (.inl (v9 + 1)), none, none, none], [], m44)) rfl ?_
              refine e_let (fun (v45 : Int32) => (124, [some (.inr (.inr (some (12, 0)))), some (.inl a1), some (.inl v42), some (.inl v43), some (.inl v45), none, none, none], [], m44)) hres (fun v45 hres => ?_)
              refine e_steps 1 (s' := (32, [some (.inr (.inr (some (12, 0)))), some (.inl a1), some (.inl v42), some (.inl v43), some (.inl v45), none, none, none], [], m44)) rfl ?_
              obtain rfl := Option.some.inj hres
              exact e_mask (L' := [some (.inr (.inr (some (12, 0)))), some (.inl a1), some (.inl v42), some (.inl v43), some (.inl v45), none, none, none]) rfl (hcl6 _ rfl)
            · obtain ⟨v30, v31, v32, m33⟩ := s
              show mm_E (d + 1) 248 (57, [some (.inr (.inr (some (12, 0)))), some (.inl a1), some (.inl v30), some (.inl v31), some (.inl v9), some (.inl v32), none, none], [], m33) (.inl (some (.inl r.1)), r.2, 0, 0)
              refine e_steps 3 (s' := (61, [some (.inr (.inr (some (12, 0)))), some (.inl a1), some (.inl v30), some (.inl v31), some (.inl v9), some (.inl v32), none, none], [.inl 1, .inl a1, .inl v32], m33)) rfl ?_
              refine e_join (fun k35 => ∀ (w34 : Int32), k35 w34 = some ol29 → mm_E (d + 1) 248 (75, [some (.inr (.inr (some (12, 0)))), some (.inl a1), some (.inl v30), some (.inl v31), some (.inl v9), some (.inl v32), none, none], [.inl w34, .inl v32], m33) (.inl (some (.inl r.1)), r.2, 0, 0)) hres (fun w34 hres => ?_) (fun k35 hk35 hres => ?_)
              · refine e_if (s1 := (121, [some (.inr (.inr (some (12, 0)))), some (.inl a1), some (.inl v30), some (.inl v31), some (.inl v9), some (.inl v32), none, none], [], m33)) (s2 := (78, [some (.inr (.inr (some (12, 0)))), some (.inl a1), some (.inl v30), some (.inl v31), some (.inl v9), some (.inl v32), none, none], [], m33)) rfl hres (fun hc hres => ?_) (fun hc hres => ?_)
                · obtain rfl := Option.some.inj hres
                  exact e_mask (L' := [some (.inr (.inr (some (12, 0)))), some (.inl a1), some (.inl v30), some (.inl v31), some (.inl v9), none, none, none]) rfl (hxl29 _ rfl)
                · refine e_steps 8 (s' := (89, [some (.inr (.inr (some (12, 0)))), some (.inl a1), some (.inl v30), some (.inl v31), some (.inl v9), some (.inl v32), some (.inl ((1 <<< (v9 &&& 31)) ||| (1 <<< (v32 &&& 31)))), none], [], m33)) rfl ?_
                  refine e_let (fun (v36 : Int32) => (89, [some (.inr (.inr (some (12, 0)))), some (.inl a1), some (.inl v30), some (.inl v31), some (.inl v9), some (.inl v32), some (.inl v36), none], [], m33)) hres (fun v36 hres => ?_)
                  refine e_steps 2 (s' := (92, [some (.inr (.inr (some (12, 0)))), some (.inl a1), some (.inl v30), some (.inl v31), some (.inl v9), some (.inl v32), some (.inl v36), none], [.inl v36, .inr (.inr (some (12, 0)))], m33)) rfl ?_
                  obtain ⟨r37, m38, hv, hres⟩ := mm_b2_some hres
                  refine e_call0 (pc := 95) (L := [some (.inr (.inr (some (12, 0)))), some (.inl a1), some (.inl v30), some (.inl v31), some (.inl v9), some (.inl v32), some (.inl v36), none]) (st := []) (m' := m38) (v := some (.inl r37)) rfl (k_X12_lostBy d (by omega) v36 _ _ hv) ?_
                  show mm_E (d + 1) 248 (95, [some (.inr (.inr (some (12, 0)))), some (.inl a1), some (.inl v30), some (.inl v31), some (.inl v9), some (.inl v32), some (.inl v36), none], [.inl r37], m38) (.inl (some (.inl r.1)), r.2, 0, 0)
                  obtain ⟨r39, hv, hres⟩ := mm_b1_some hres
                  refine e_call0 (pc := 98) (L := [some (.inr (.inr (some (12, 0)))), some (.inl a1), some (.inl v30), some (.inl v31), some (.inl v9), some (.inl v32), some (.inl v36), none]) (st := []) (m' := m38) (v := some (.inl r39)) rfl (k_X12_many d (by omega) r37 _ _ hv) ?_
                  show mm_E (d + 1) 248 (98, [some (.inr (.inr (some (12, 0)))), some (.inl a1), some (.inl v30), some (.inl v31), some (.inl v9), some (.inl v32), some (.inl v36), none], [.inl r39], m38) (.inl (some (.inl r.1)), r.2, 0, 0)
                  refine e_steps 3 (s' := (103, [some (.inr (.inr (some (12, 0)))), some (.inl a1), some (.inl v30), some (.inl v31), some (.inl v9), some (.inl v32), some (.inl v36), some (.inl r39)], [.inl v31, .inl r39], m38)) rfl ?_
                  refine e_if (s1 := (109, [some (.inr (.inr (some (12, 0)))), some (.inl a1), some (.inl v30), some (.inl v31), some (.inl v9), some (.inl v32), some (.inl v36), some (.inl r39)], [], m38)) (s2 := (106, [some (.inr (.inr (some (12, 0)))), some (.inl a1), some (.inl v30), some (.inl v31), some (.inl v9), some (.inl v32), some (.inl v36), some (.inl r39)], [], m38)) rfl hres (fun hc hres => ?_) (fun hc hres => ?_)
                  · refine e_steps 4 (s' := (115, [some (.inr (.inr (some (12, 0)))), some (.inl a1), some (.inl v36), some (.inl r39), some (.inl v9), some (.inl v32), some (.inl v36), some (.inl r39)], [], m38)) rfl ?_
                    refine e_mask (L' := [some (.inr (.inr (some (12, 0)))), some (.inl a1), some (.inl v36), some (.inl r39), some (.inl v9), some (.inl v32), none, none]) rfl ?_
                    refine e_steps 1 (s' := (118, [some (.inr (.inr (some (12, 0)))), some (.inl a1), some (.inl v36), some (.inl r39), some (.inl v9), some (.inl (v32 + 1)), none, none], [], m38)) rfl ?_
                    refine e_let (fun (v40 : Int32) => (118, [some (.inr (.inr (some (12, 0)))), some (.inl a1), some (.inl v36), some (.inl r39), some (.inl v9), some (.inl v40), none, none], [], m38)) hres (fun v40 hres => ?_)
                    refine e_steps 1 (s' := (57, [some (.inr (.inr (some (12, 0)))), some (.inl a1), some (.inl v36), some (.inl r39), some (.inl v9), some (.inl v40), none, none], [], m38)) rfl ?_
                    obtain rfl := Option.some.inj hres
                    exact e_mask (L' := [some (.inr (.inr (some (12, 0)))), some (.inl a1), some (.inl v36), some (.inl r39), some (.inl v9), some (.inl v40), none, none]) rfl (hcl29 _ rfl)
                  · refine e_steps 1 (s' := (115, [some (.inr (.inr (some (12, 0)))), some (.inl a1), some (.inl v30), some (.inl v31), some (.inl v9), some (.inl v32), some (.inl v36), some (.inl r39)], [], m38)) rfl ?_
                    refine e_mask (L' := [some (.inr (.inr (some (12, 0)))), some (.inl a1), some (.inl v30), some (.inl v31), some (.inl v9), some (.inl v32), none, none]) rfl ?_
                    refine e_steps 1 (s' := (118, [some (.inr (.inr (some (12, 0)))), some (.inl a1), some (.inl v30), some (.inl v31), some (.inl v9), some (.inl (v32 + 1)), none, none], [], m38)) rfl ?_
                    refine e_let (fun (v41 : Int32) => (118, [some (.inr (.inr (some (12, 0)))), some (.inl a1), some (.inl v30), some (.inl v31), some (.inl v9), some (.inl v41), none, none], [], m38)) hres (fun v41 hres => ?_)
                    refine e_steps 1 (s' := (57, [some (.inr (.inr (some (12, 0)))), some (.inl a1), some (.inl v30), some (.inl v31), some (.inl v9), some (.inl v41), none, none], [], m38)) rfl ?_
                    obtain rfl := Option.some.inj hres
                    exact e_mask (L' := [some (.inr (.inr (some (12, 0)))), some (.inl a1), some (.inl v30), some (.inl v31), some (.inl v9), some (.inl v41), none, none]) rfl (hcl29 _ rfl)
              · refine e_if (s1 := (71, [some (.inr (.inr (some (12, 0)))), some (.inl a1), some (.inl v30), some (.inl v31), some (.inl v9), some (.inl v32), none, none], [.inl v32], m33)) (s2 := (64, [some (.inr (.inr (some (12, 0)))), some (.inl a1), some (.inl v30), some (.inl v31), some (.inl v9), some (.inl v32), none, none], [.inl v32], m33)) rfl hres (fun hc hres => ?_) (fun hc hres => ?_)
                · refine e_steps 2 (s' := (75, [some (.inr (.inr (some (12, 0)))), some (.inl a1), some (.inl v30), some (.inl v31), some (.inl v9), some (.inl v32), none, none], [.inl (m33 12 0 77), .inl v32], m33)) rfl ?_
                  exact e_mask (L' := [some (.inr (.inr (some (12, 0)))), some (.inl a1), some (.inl v30), some (.inl v31), some (.inl v9), some (.inl v32), none, none]) rfl (hk35 _ hres)
                · refine e_steps 4 (s' := (75, [some (.inr (.inr (some (12, 0)))), some (.inl a1), some (.inl v30), some (.inl v31), some (.inl v9), some (.inl v32), none, none], [.inl (v9 + 1), .inl v32], m33)) rfl ?_
                  exact e_mask (L' := [some (.inr (.inr (some (12, 0)))), some (.inl a1), some (.inl v30), some (.inl v31), some (.inl v9), some (.inl v32), none, none]) rfl (hk35 _ hres)
    · refine e_mask (L' := [some (.inr (.inr (some (12, 0)))), none, none, none, none, none, none, none]) rfl ?_
      refine e_steps 2 (s' := (17, [some (.inr (.inr (some (12, 0)))), none, none, none, none, none, none, none], [.inl 1, .inr (.inr (some (12, 0)))], m1)) rfl ?_
      obtain ⟨r48, m49, hv, hres⟩ := mm_b2_some hres
      refine e_call0 (pc := 20) (L := [some (.inr (.inr (some (12, 0)))), none, none, none, none, none, none, none]) (st := []) (m' := m49) (v := some (.inl r48)) rfl (k_X12_fail d (by omega) 1 _ _ hv) ?_
      show mm_E (d + 1) 248 (20, [some (.inr (.inr (some (12, 0)))), none, none, none, none, none, none, none], [.inl r48], m49) (.inl (some (.inl r.1)), r.2, 0, 0)
      obtain rfl := Option.some.inj hres
      exact e_ret rfl rfl
/-- GlassThreadsModel.isSheet(I)Z -/
def f_X12_isSheet (a1 : Int32) (m : mm_M) : Option (Int32) :=
mm_b1 (f_X12_isIn a1 0 ((m 12 0 99) - 1) m) fun r1 =>
if r1 = 0 ∨ r1 = 1 then some r1 else none
set_option maxHeartbeats 4000000 in
set_option maxRecDepth 100000 in
theorem k_X12_isSheet (d : Nat) (hd : 1 ≤ d) (a1 : Int32) (m : mm_M) (r : Int32) (hres : f_X12_isSheet a1 m = some r) : mm_X d 249 [.inr (.inr (some (12, 0))), .inl a1] m (.inl (some (.inl r)), m, 0, 0) := by
  unfold f_X12_isSheet at hres
  obtain ⟨d, rfl⟩ : ∃ e, d = e + 1 := ⟨d - 1, by omega⟩
  show mm_E (d + 1) 249 (0, [some (.inr (.inr (some (12, 0)))), some (.inl a1)], [], m) (.inl (some (.inl r)), m, 0, 0)
  refine e_steps 6 (s' := (8, [some (.inr (.inr (some (12, 0)))), some (.inl a1)], [.inl ((m 12 0 99) - 1), .inl 0, .inl a1], m)) rfl ?_
  obtain ⟨r1, hv, hres⟩ := mm_b1_some hres
  refine e_call0 (pc := 11) (L := [some (.inr (.inr (some (12, 0)))), some (.inl a1)]) (st := []) (m' := m) (v := some (.inl r1)) rfl (k_X12_isIn d (by omega) a1 0 ((m 12 0 99) - 1) _ _ hv) ?_
  show mm_E (d + 1) 249 (11, [some (.inr (.inr (some (12, 0)))), some (.inl a1)], [.inl r1], m) (.inl (some (.inl r)), m, 0, 0)
  refine e_gr (o := .inl (some (.inl r1))) rfl hres (fun hc hres => ?_)
  obtain rfl := Option.some.inj hres
  rfl
/-- GlassThreadsModel.sheet(II)I -/
def f_X12_sheet (a1 : Int32) (a2 : Int32) (m : mm_M) : Option (Int32 × mm_M) :=
mm_let (mm_w m 12 0 3 0) fun m1 =>
if (m1 12 0 99) = 8 then (some ((-1), m1))
else (mm_b1 (f_X12_isIn a1 0 2 m1) fun r2 =>
if r2 ≠ 0 then (if a2 < (-1) then (some ((-2), m1))
else (if a2 ≤ 24 then (if mm_in (m1 12 0 99) 8 then (
mm_let (mm_w m1 129 0 ((m1 12 0 99).toNatClampNeg) a1) fun m3 =>
if mm_in (m3 12 0 99) 8 then (
mm_let (mm_w m3 130 0 ((m3 12 0 99).toNatClampNeg) a2) fun m4 =>
(mm_b1 (mm_loop (σ := Int32 × mm_M) (ρ := (mm_M)) (fun (s : Int32 × mm_M) => match s with
| (v6, m7) => (if 24 ≤ v6 then (some (.inr m7))
else (if mm_in ((24 * (m7 12 0 99)) + v6) 192 then (
mm_let (mm_w m7 131 0 (((24 * (m7 12 0 99)) + v6).toNatClampNeg) 0) fun m8 =>
mm_let (v6 + 1) fun v9 =>
some (.inl (v9, m8))) else none) : Option ((Int32 × mm_M) ⊕ ((mm_M))))) mm_fu (0, m4)) fun m10 =>
mm_let (mm_w m10 12 0 99 ((m10 12 0 99) + 1)) fun m11 =>
some (((m11 12 0 99) - 1), m11))) else none) else none)
else (some ((-2), m1))))
else (some ((-1), m1)))
set_option maxHeartbeats 4000000 in
set_option maxRecDepth 100000 in
theorem k_X12_sheet (d : Nat) (hd : 1 ≤ d) (a1 : Int32) (a2 : Int32) (m : mm_M) (r : Int32 × mm_M) (hres : f_X12_sheet a1 a2 m = some r) : mm_X d 250 [.inr (.inr (some (12, 0))), .inl a1, .inl a2] m (.inl (some (.inl r.1)), r.2, 0, 0) := by
  unfold f_X12_sheet at hres
  obtain ⟨d, rfl⟩ : ∃ e, d = e + 1 := ⟨d - 1, by omega⟩
  show mm_E (d + 1) 250 (0, [some (.inr (.inr (some (12, 0)))), some (.inl a1), some (.inl a2), none], [], m) (.inl (some (.inl r.1)), r.2, 0, 0)
  refine e_steps 3 (s' := (5, [some (.inr (.inr (some (12, 0)))), some (.inl a1), some (.inl a2), none], [], (mm_w m 12 0 3 0))) rfl ?_
  refine e_let (fun (m1 : mm_M) => (5, [some (.inr (.inr (some (12, 0)))), some (.inl a1), some (.inl a2), none], [], m1)) hres (fun m1 hres => ?_)
  refine e_steps 3 (s' := (11, [some (.inr (.inr (some (12, 0)))), some (.inl a1), some (.inl a2), none], [.inl 8, .inl (m1 12 0 99)], m1)) rfl ?_
  refine e_if (s1 := (23, [some (.inr (.inr (some (12, 0)))), some (.inl a1), some (.inl a2), none], [], m1)) (s2 := (14, [some (.inr (.inr (some (12, 0)))), some (.inl a1), some (.inl a2), none], [], m1)) rfl hres (fun hc hres => ?_) (fun hc hres => ?_)
  · refine e_mask (L' := [none, none, none, none]) rfl ?_
    refine e_steps 1 (s' := (24, [none, none, none, none], [.inl (-1)], m1)) rfl ?_
    obtain rfl := Option.some.inj hres
    exact e_ret rfl rfl
  · refine e_steps 3 (s' := (17, [some (.inr (.inr (some (12, 0)))), some (.inl a1), some (.inl a2), none], [.inl 2, .inl 0, .inl a1], m1)) rfl ?_
    obtain ⟨r2, hv, hres⟩ := mm_b1_some hres
    refine e_call0 (pc := 20) (L := [some (.inr (.inr (some (12, 0)))), some (.inl a1), some (.inl a2), none]) (st := []) (m' := m1) (v := some (.inl r2)) rfl (k_X12_isIn d (by omega) a1 0 2 _ _ hv) ?_
    show mm_E (d + 1) 250 (20, [some (.inr (.inr (some (12, 0)))), some (.inl a1), some (.inl a2), none], [.inl r2], m1) (.inl (some (.inl r.1)), r.2, 0, 0)
    refine e_if (s1 := (25, [some (.inr (.inr (some (12, 0)))), some (.inl a1), some (.inl a2), none], [], m1)) (s2 := (23, [some (.inr (.inr (some (12, 0)))), some (.inl a1), some (.inl a2), none], [], m1)) rfl hres (fun hc hres => ?_) (fun hc hres => ?_)
    · refine e_steps 2 (s' := (27, [some (.inr (.inr (some (12, 0)))), some (.inl a1), some (.inl a2), none], [.inl (-1), .inl a2], m1)) rfl ?_
      refine e_if (s1 := (36, [some (.inr (.inr (some (12, 0)))), some (.inl a1), some (.inl a2), none], [], m1)) (s2 := (30, [some (.inr (.inr (some (12, 0)))), some (.inl a1), some (.inl a2), none], [], m1)) rfl hres (fun hc hres => ?_) (fun hc hres => ?_)
      · refine e_mask (L' := [none, none, none, none]) rfl ?_
        refine e_steps 1 (s' := (38, [none, none, none, none], [.inl (-2)], m1)) rfl ?_
        obtain rfl := Option.some.inj hres
        exact e_ret rfl rfl
      · refine e_steps 2 (s' := (33, [some (.inr (.inr (some (12, 0)))), some (.inl a1), some (.inl a2), none], [.inl 24, .inl a2], m1)) rfl ?_
        refine e_if (s1 := (39, [some (.inr (.inr (some (12, 0)))), some (.inl a1), some (.inl a2), none], [], m1)) (s2 := (36, [some (.inr (.inr (some (12, 0)))), some (.inl a1), some (.inl a2), none], [], m1)) rfl hres (fun hc hres => ?_) (fun hc hres => ?_)
        · refine e_steps 5 (s' := (48, [some (.inr (.inr (some (12, 0)))), some (.inl a1), some (.inl a2), none], [.inl a1, .inl (m1 12 0 99), .inr (.inr (some (129, 0)))], m1)) rfl ?_
          refine e_gd (s1 := (49, [some (.inr (.inr (some (12, 0)))), some (.inl a1), some (.inl a2), none], [], (mm_w m1 129 0 ((m1 12 0 99).toNatClampNeg) a1))) rfl hres (fun hc hres => ?_)
          refine e_let (fun (m3 : mm_M) => (49, [some (.inr (.inr (some (12, 0)))), some (.inl a1), some (.inl a2), none], [], m3)) hres (fun m3 hres => ?_)
          refine e_steps 5 (s' := (58, [some (.inr (.inr (some (12, 0)))), some (.inl a1), some (.inl a2), none], [.inl a2, .inl (m3 12 0 99), .inr (.inr (some (130, 0)))], m3)) rfl ?_
          refine e_gd (s1 := (59, [some (.inr (.inr (some (12, 0)))), some (.inl a1), some (.inl a2), none], [], (mm_w m3 130 0 ((m3 12 0 99).toNatClampNeg) a2))) rfl hres (fun hc hres => ?_)
          refine e_let (fun (m4 : mm_M) => (59, [some (.inr (.inr (some (12, 0)))), some (.inl a1), some (.inl a2), none], [], m4)) hres (fun m4 hres => ?_)
          refine e_steps 2 (s' := (61, [some (.inr (.inr (some (12, 0)))), some (.inl a1), some (.inl a2), some (.inl 0)], [], m4)) rfl ?_
          refine e_mask (L' := [some (.inr (.inr (some (12, 0)))), none, none, some (.inl 0)]) rfl ?_
          refine e_loopb (φ := fun s => (61, [some (.inr (.inr (some (12, 0)))), none, none, some (.inl s.1)], [], s.2)) (K := fun t => mm_E (d + 1) 250 (88, [some (.inr (.inr (some (12, 0)))), none, none, none], [], t) (.inl (some (.inl r.1)), r.2, 0, 0)) hres (fun m10 hres => ?_) (fun s ol5 hres hcl5 hxl5 => ?_)
          · show mm_E (d + 1) 250 (88, [some (.inr (.inr (some (12, 0)))), none, none, none], [], m10) (.inl (some (.inl r.1)), r.2, 0, 0)
            refine e_steps 6 (s' := (98, [some (.inr (.inr (some (12, 0)))), none, none, none], [], (mm_w m10 12 0 99 ((m10 12 0 99) + 1)))) rfl ?_
            refine e_let (fun (m11 : mm_M) => (98, [some (.inr (.inr (some (12, 0)))), none, none, none], [], m11)) hres (fun m11 hres => ?_)
            refine e_steps 4 (s' := (104, [some (.inr (.inr (some (12, 0)))), none, none, none], [.inl ((m11 12 0 99) - 1)], m11)) rfl ?_
            obtain rfl := Option.some.inj hres
            exact e_ret rfl rfl
          · obtain ⟨v6, m7⟩ := s
            show mm_E (d + 1) 250 (61, [some (.inr (.inr (some (12, 0)))), none, none, some (.inl v6)], [], m7) (.inl (some (.inl r.1)), r.2, 0, 0)
            refine e_steps 2 (s' := (64, [some (.inr (.inr (some (12, 0)))), none, none, some (.inl v6)], [.inl 24, .inl v6], m7)) rfl ?_
            refine e_if (s1 := (88, [some (.inr (.inr (some (12, 0)))), none, none, some (.inl v6)], [], m7)) (s2 := (67, [some (.inr (.inr (some (12, 0)))), none, none, some (.inl v6)], [], m7)) rfl hres (fun hc hres => ?_) (fun hc hres => ?_)
            · obtain rfl := Option.some.inj hres
              exact e_mask (L' := [some (.inr (.inr (some (12, 0)))), none, none, none]) rfl (hxl5 _ rfl)
            · refine e_steps 9 (s' := (81, [some (.inr (.inr (some (12, 0)))), none, none, some (.inl v6)], [.inl 0, .inl ((24 * (m7 12 0 99)) + v6), .inr (.inr (some (131, 0)))], m7)) rfl ?_
              refine e_gd (s1 := (82, [some (.inr (.inr (some (12, 0)))), none, none, some (.inl v6)], [], (mm_w m7 131 0 (((24 * (m7 12 0 99)) + v6).toNatClampNeg) 0))) rfl hres (fun hc hres => ?_)
              refine e_let (fun (m8 : mm_M) => (82, [some (.inr (.inr (some (12, 0)))), none, none, some (.inl v6)], [], m8)) hres (fun m8 hres => ?_)
              refine e_steps 1 (s' := (85, [some (.inr (.inr (some (12, 0)))), none, none, some (.inl (v6 + 1))], [], m8)) rfl ?_
              refine e_let (fun (v9 : Int32) => (85, [some (.inr (.inr (some (12, 0)))), none, none, some (.inl v9)], [], m8)) hres (fun v9 hres => ?_)
              refine e_steps 1 (s' := (61, [some (.inr (.inr (some (12, 0)))), none, none, some (.inl v9)], [], m8)) rfl ?_
              obtain rfl := Option.some.inj hres
              exact e_mask (L' := [some (.inr (.inr (some (12, 0)))), none, none, some (.inl v9)]) rfl (hcl5 _ rfl)
        · refine e_mask (L' := [none, none, none, none]) rfl ?_
          refine e_steps 1 (s' := (38, [none, none, none, none], [.inl (-2)], m1)) rfl ?_
          obtain rfl := Option.some.inj hres
          exact e_ret rfl rfl
    · refine e_mask (L' := [none, none, none, none]) rfl ?_
      refine e_steps 1 (s' := (24, [none, none, none, none], [.inl (-1)], m1)) rfl ?_
      obtain rfl := Option.some.inj hres
      exact e_ret rfl rfl
/-- GlassThreadsModel.write(III)I -/
def f_X12_write (a1 : Int32) (a2 : Int32) (a3 : Int32) (m : mm_M) : Option (Int32 × mm_M) :=
mm_let (mm_w m 12 0 3 0) fun m1 =>
mm_b1 (f_X12_isSheet a1 m1) fun r2 =>
if r2 ≠ 0 then (if mm_in a1 8 then (
if 0 ≤ (m1 130 0 a1.toNatClampNeg) then (if mm_in a1 8 then (
mm_b1 (f_X12_isIn a2 0 ((m1 130 0 a1.toNatClampNeg) - 1) m1) fun r3 =>
if r3 ≠ 0 then (if mm_in a1 8 then (
mm_let (fun (w4 : Int32) => (if w4 ≠ 0 then (if mm_in ((24 * a1) + a2) 192 then (
mm_let (mm_w m1 131 0 (((24 * a1) + a2).toNatClampNeg) a3) fun m6 =>
some (0, m6)) else none)
else (some (4, m1)) : Option (Int32 × mm_M))) fun k5 =>
if (m1 129 0 a1.toNatClampNeg) = 2 then (k5 1)
else (if mm_in a1 8 then (
if (m1 129 0 a1.toNatClampNeg) ≠ 1 then (mm_b1 (f_X12_isIn a3 (-128) 127 m1) fun r7 =>
if r7 = 0 then (k5 0)
else (k5 1))
else (mm_b1 (f_X12_isIn a3 (-32768) 32767 m1) fun r8 =>
if r8 = 0 then (k5 0)
else (k5 1))) else none)) else none)
else (some (3, m1))) else none)
else (some (1, m1))) else none)
else (mm_b2 (f_X12_fail 1 m1) fun r9 m10 =>
some (r9, m10))
set_option maxHeartbeats 4000000 in
set_option maxRecDepth 100000 in
theorem k_X12_write (d : Nat) (hd : 2 ≤ d) (a1 : Int32) (a2 : Int32) (a3 : Int32) (m : mm_M) (r : Int32 × mm_M) (hres : f_X12_write a1 a2 a3 m = some r) : mm_X d 251 [.inr (.inr (some (12, 0))), .inl a1, .inl a2, .inl a3] m (.inl (some (.inl r.1)), r.2, 0, 0) := by
  unfold f_X12_write at hres
  obtain ⟨d, rfl⟩ : ∃ e, d = e + 1 := ⟨d - 1, by omega⟩
  show mm_E (d + 1) 251 (0, [some (.inr (.inr (some (12, 0)))), some (.inl a1), some (.inl a2), some (.inl a3), none], [], m) (.inl (some (.inl r.1)), r.2, 0, 0)
  refine e_steps 3 (s' := (5, [some (.inr (.inr (some (12, 0)))), some (.inl a1), some (.inl a2), some (.inl a3), none], [], (mm_w m 12 0 3 0))) rfl ?_
  refine e_let (fun (m1 : mm_M) => (5, [some (.inr (.inr (some (12, 0)))), some (.inl a1), some (.inl a2), some (.inl a3), none], [], m1)) hres (fun m1 hres => ?_)
  refine e_steps 2 (s' := (7, [some (.inr (.inr (some (12, 0)))), some (.inl a1), some (.inl a2), some (.inl a3), none], [.inl a1, .inr (.inr (some (12, 0)))], m1)) rfl ?_
  obtain ⟨r2, hv, hres⟩ := mm_b1_some hres
  refine e_call0 (pc := 10) (L := [some (.inr (.inr (some (12, 0)))), some (.inl a1), some (.inl a2), some (.inl a3), none]) (st := []) (m' := m1) (v := some (.inl r2)) rfl (k_X12_isSheet d (by omega) a1 _ _ hv) ?_
  show mm_E (d + 1) 251 (10, [some (.inr (.inr (some (12, 0)))), some (.inl a1), some (.inl a2), some (.inl a3), none], [.inl r2], m1) (.inl (some (.inl r.1)), r.2, 0, 0)
  refine e_if (s1 := (19, [some (.inr (.inr (some (12, 0)))), some (.inl a1), some (.inl a2), some (.inl a3), none], [], m1)) (s2 := (13, [some (.inr (.inr (some (12, 0)))), some (.inl a1), some (.inl a2), some (.inl a3), none], [], m1)) rfl hres (fun hc hres => ?_) (fun hc hres => ?_)
  · refine e_steps 3 (s' := (24, [some (.inr (.inr (some (12, 0)))), some (.inl a1), some (.inl a2), some (.inl a3), none], [.inl a1, .inr (.inr (some (130, 0)))], m1)) rfl ?_
    refine e_gd (s1 := (25, [some (.inr (.inr (some (12, 0)))), some (.inl a1), some (.inl a2), some (.inl a3), none], [.inl (m1 130 0 a1.toNatClampNeg)], m1)) rfl hres (fun hc hres => ?_)
    refine e_if (s1 := (30, [some (.inr (.inr (some (12, 0)))), some (.inl a1), some (.inl a2), some (.inl a3), none], [], m1)) (s2 := (28, [some (.inr (.inr (some (12, 0)))), some (.inl a1), some (.inl a2), some (.inl a3), none], [], m1)) rfl hres (fun hc hres => ?_) (fun hc hres => ?_)
    · refine e_steps 5 (s' := (37, [some (.inr (.inr (some (12, 0)))), some (.inl a1), some (.inl a2), some (.inl a3), none], [.inl a1, .inr (.inr (some (130, 0))), .inl 0, .inl a2], m1)) rfl ?_
      refine e_gd (s1 := (38, [some (.inr (.inr (some (12, 0)))), some (.inl a1), some (.inl a2), some (.inl a3), none], [.inl (m1 130 0 a1.toNatClampNeg), .inl 0, .inl a2], m1)) rfl hres (fun hc hres => ?_)
      refine e_steps 2 (s' := (40, [some (.inr (.inr (some (12, 0)))), some (.inl a1), some (.inl a2), some (.inl a3), none], [.inl ((m1 130 0 a1.toNatClampNeg) - 1), .inl 0, .inl a2], m1)) rfl ?_
      obtain ⟨r3, hv, hres⟩ := mm_b1_some hres
      refine e_call0 (pc := 43) (L := [some (.inr (.inr (some (12, 0)))), some (.inl a1), some (.inl a2), some (.inl a3), none]) (st := []) (m' := m1) (v := some (.inl r3)) rfl (k_X12_isIn d (by omega) a2 0 ((m1 130 0 a1.toNatClampNeg) - 1) _ _ hv) ?_
      show mm_E (d + 1) 251 (43, [some (.inr (.inr (some (12, 0)))), some (.inl a1), some (.inl a2), some (.inl a3), none], [.inl r3], m1) (.inl (some (.inl r.1)), r.2, 0, 0)
      refine e_if (s1 := (48, [some (.inr (.inr (some (12, 0)))), some (.inl a1), some (.inl a2), some (.inl a3), none], [], m1)) (s2 := (46, [some (.inr (.inr (some (12, 0)))), some (.inl a1), some (.inl a2), some (.inl a3), none], [], m1)) rfl hres (fun hc hres => ?_) (fun hc hres => ?_)
      · refine e_steps 3 (s' := (53, [some (.inr (.inr (some (12, 0)))), some (.inl a1), some (.inl a2), some (.inl a3), none], [.inl a1, .inr (.inr (some (129, 0)))], m1)) rfl ?_
        refine e_gd (s1 := (54, [some (.inr (.inr (some (12, 0)))), some (.inl a1), some (.inl a2), some (.inl a3), none], [.inl (m1 129 0 a1.toNatClampNeg)], m1)) rfl hres (fun hc hres => ?_)
        refine e_steps 1 (s' := (55, [some (.inr (.inr (some (12, 0)))), some (.inl a1), some (.inl a2), some (.inl a3), none], [.inl 2, .inl (m1 129 0 a1.toNatClampNeg)], m1)) rfl ?_
        refine e_join (fun k5 => ∀ (w4 : Int32), k5 w4 = some r → mm_E (d + 1) 251 (100, [some (.inr (.inr (some (12, 0)))), some (.inl a1), some (.inl a2), some (.inl a3), none], [.inl w4], m1) (.inl (some (.inl r.1)), r.2, 0, 0)) hres (fun w4 hres => ?_) (fun k5 hk5 hres => ?_)
        · refine e_steps 2 (s' := (104, [some (.inr (.inr (some (12, 0)))), some (.inl a1), some (.inl a2), some (.inl a3), some (.inl w4)], [.inl w4], m1)) rfl ?_
          refine e_if (s1 := (109, [some (.inr (.inr (some (12, 0)))), some (.inl a1), some (.inl a2), some (.inl a3), some (.inl w4)], [], m1)) (s2 := (107, [some (.inr (.inr (some (12, 0)))), some (.inl a1), some (.inl a2), some (.inl a3), some (.inl w4)], [], m1)) rfl hres (fun hc hres => ?_) (fun hc hres => ?_)
          · refine e_steps 8 (s' := (120, [some (.inr (.inr (some (12, 0)))), some (.inl a1), some (.inl a2), some (.inl a3), some (.inl w4)], [.inl a3, .inl ((24 * a1) + a2), .inr (.inr (some (131, 0)))], m1)) rfl ?_
            refine e_gd (s1 := (121, [some (.inr (.inr (some (12, 0)))), some (.inl a1), some (.inl a2), some (.inl a3), some (.inl w4)], [], (mm_w m1 131 0 (((24 * a1) + a2).toNatClampNeg) a3))) rfl hres (fun hc hres => ?_)
            refine e_let (fun (m6 : mm_M) => (121, [some (.inr (.inr (some (12, 0)))), some (.inl a1), some (.inl a2), some (.inl a3), some (.inl w4)], [], m6)) hres (fun m6 hres => ?_)
            refine e_steps 1 (s' := (122, [some (.inr (.inr (some (12, 0)))), some (.inl a1), some (.inl a2), some (.inl a3), some (.inl w4)], [.inl 0], m6)) rfl ?_
            obtain rfl := Option.some.inj hres
            exact e_ret rfl rfl
          · refine e_steps 1 (s' := (108, [some (.inr (.inr (some (12, 0)))), some (.inl a1), some (.inl a2), some (.inl a3), some (.inl w4)], [.inl 4], m1)) rfl ?_
            obtain rfl := Option.some.inj hres
            exact e_ret rfl rfl
        · refine e_if (s1 := (95, [some (.inr (.inr (some (12, 0)))), some (.inl a1), some (.inl a2), some (.inl a3), none], [], m1)) (s2 := (58, [some (.inr (.inr (some (12, 0)))), some (.inl a1), some (.inl a2), some (.inl a3), none], [], m1)) rfl hres (fun hc hres => ?_) (fun hc hres => ?_)
          · refine e_steps 2 (s' := (100, [some (.inr (.inr (some (12, 0)))), some (.inl a1), some (.inl a2), some (.inl a3), none], [.inl 1], m1)) rfl ?_
            exact e_mask (L' := [some (.inr (.inr (some (12, 0)))), some (.inl a1), some (.inl a2), some (.inl a3), none]) rfl (hk5 _ hres)
          · refine e_steps 3 (s' := (63, [some (.inr (.inr (some (12, 0)))), some (.inl a1), some (.inl a2), some (.inl a3), none], [.inl a1, .inr (.inr (some (129, 0)))], m1)) rfl ?_
            refine e_gd (s1 := (64, [some (.inr (.inr (some (12, 0)))), some (.inl a1), some (.inl a2), some (.inl a3), none], [.inl (m1 129 0 a1.toNatClampNeg)], m1)) rfl hres (fun hc hres => ?_)
            refine e_steps 1 (s' := (65, [some (.inr (.inr (some (12, 0)))), some (.inl a1), some (.inl a2), some (.inl a3), none], [.inl 1, .inl (m1 129 0 a1.toNatClampNeg)], m1)) rfl ?_
            refine e_if (s1 := (84, [some (.inr (.inr (some (12, 0)))), some (.inl a1), some (.inl a2), some (.inl a3), none], [], m1)) (s2 := (68, [some (.inr (.inr (some (12, 0)))), some (.inl a1), some (.inl a2), some (.inl a3), none], [], m1)) rfl hres (fun hc hres => ?_) (fun hc hres => ?_)
            · refine e_steps 3 (s' := (89, [some (.inr (.inr (some (12, 0)))), some (.inl a1), some (.inl a2), some (.inl a3), none], [.inl 127, .inl (-128), .inl a3], m1)) rfl ?_
              obtain ⟨r7, hv, hres⟩ := mm_b1_some hres
              refine e_call0 (pc := 92) (L := [some (.inr (.inr (some (12, 0)))), some (.inl a1), some (.inl a2), some (.inl a3), none]) (st := []) (m' := m1) (v := some (.inl r7)) rfl (k_X12_isIn d (by omega) a3 (-128) 127 _ _ hv) ?_
              show mm_E (d + 1) 251 (92, [some (.inr (.inr (some (12, 0)))), some (.inl a1), some (.inl a2), some (.inl a3), none], [.inl r7], m1) (.inl (some (.inl r.1)), r.2, 0, 0)
              refine e_if (s1 := (99, [some (.inr (.inr (some (12, 0)))), some (.inl a1), some (.inl a2), some (.inl a3), none], [], m1)) (s2 := (95, [some (.inr (.inr (some (12, 0)))), some (.inl a1), some (.inl a2), some (.inl a3), none], [], m1)) rfl hres (fun hc hres => ?_) (fun hc hres => ?_)
              · refine e_steps 1 (s' := (100, [some (.inr (.inr (some (12, 0)))), some (.inl a1), some (.inl a2), some (.inl a3), none], [.inl 0], m1)) rfl ?_
                exact e_mask (L' := [some (.inr (.inr (some (12, 0)))), some (.inl a1), some (.inl a2), some (.inl a3), none]) rfl (hk5 _ hres)
              · refine e_steps 2 (s' := (100, [some (.inr (.inr (some (12, 0)))), some (.inl a1), some (.inl a2), some (.inl a3), none], [.inl 1], m1)) rfl ?_
                exact e_mask (L' := [some (.inr (.inr (some (12, 0)))), some (.inl a1), some (.inl a2), some (.inl a3), none]) rfl (hk5 _ hres)
            · refine e_steps 3 (s' := (75, [some (.inr (.inr (some (12, 0)))), some (.inl a1), some (.inl a2), some (.inl a3), none], [.inl 32767, .inl (-32768), .inl a3], m1)) rfl ?_
              obtain ⟨r8, hv, hres⟩ := mm_b1_some hres
              refine e_call0 (pc := 78) (L := [some (.inr (.inr (some (12, 0)))), some (.inl a1), some (.inl a2), some (.inl a3), none]) (st := []) (m' := m1) (v := some (.inl r8)) rfl (k_X12_isIn d (by omega) a3 (-32768) 32767 _ _ hv) ?_
              show mm_E (d + 1) 251 (78, [some (.inr (.inr (some (12, 0)))), some (.inl a1), some (.inl a2), some (.inl a3), none], [.inl r8], m1) (.inl (some (.inl r.1)), r.2, 0, 0)
              refine e_if (s1 := (99, [some (.inr (.inr (some (12, 0)))), some (.inl a1), some (.inl a2), some (.inl a3), none], [], m1)) (s2 := (81, [some (.inr (.inr (some (12, 0)))), some (.inl a1), some (.inl a2), some (.inl a3), none], [], m1)) rfl hres (fun hc hres => ?_) (fun hc hres => ?_)
              · refine e_steps 1 (s' := (100, [some (.inr (.inr (some (12, 0)))), some (.inl a1), some (.inl a2), some (.inl a3), none], [.inl 0], m1)) rfl ?_
                exact e_mask (L' := [some (.inr (.inr (some (12, 0)))), some (.inl a1), some (.inl a2), some (.inl a3), none]) rfl (hk5 _ hres)
              · refine e_steps 3 (s' := (100, [some (.inr (.inr (some (12, 0)))), some (.inl a1), some (.inl a2), some (.inl a3), none], [.inl 1], m1)) rfl ?_
                exact e_mask (L' := [some (.inr (.inr (some (12, 0)))), some (.inl a1), some (.inl a2), some (.inl a3), none]) rfl (hk5 _ hres)
      · refine e_steps 1 (s' := (47, [some (.inr (.inr (some (12, 0)))), some (.inl a1), some (.inl a2), some (.inl a3), none], [.inl 3], m1)) rfl ?_
        obtain rfl := Option.some.inj hres
        exact e_ret rfl rfl
    · refine e_steps 1 (s' := (29, [some (.inr (.inr (some (12, 0)))), some (.inl a1), some (.inl a2), some (.inl a3), none], [.inl 1], m1)) rfl ?_
      obtain rfl := Option.some.inj hres
      exact e_ret rfl rfl
  · refine e_steps 2 (s' := (15, [some (.inr (.inr (some (12, 0)))), some (.inl a1), some (.inl a2), some (.inl a3), none], [.inl 1, .inr (.inr (some (12, 0)))], m1)) rfl ?_
    obtain ⟨r9, m10, hv, hres⟩ := mm_b2_some hres
    refine e_call0 (pc := 18) (L := [some (.inr (.inr (some (12, 0)))), some (.inl a1), some (.inl a2), some (.inl a3), none]) (st := []) (m' := m10) (v := some (.inl r9)) rfl (k_X12_fail d (by omega) 1 _ _ hv) ?_
    show mm_E (d + 1) 251 (18, [some (.inr (.inr (some (12, 0)))), some (.inl a1), some (.inl a2), some (.inl a3), none], [.inl r9], m10) (.inl (some (.inl r.1)), r.2, 0, 0)
    obtain rfl := Option.some.inj hres
    exact e_ret rfl rfl
/-- GlassThreadsModel.hasPart(III)Z -/
def f_X12_hasPart (a1 : Int32) (a2 : Int32) (a3 : Int32) (m : mm_M) : Option (Int32) :=
if a2 < 0 then (some 0)
else (if a3 < 0 then (some 0)
else (if mm_in a1 8 then (
if (m 130 0 a1.toNatClampNeg) < a2 then (some 0)
else (if mm_in a1 8 then (
if ((m 130 0 a1.toNatClampNeg) - a2) < a3 then (some 0)
else (some 1)) else none)) else none))
set_option maxHeartbeats 4000000 in
set_option maxRecDepth 100000 in
theorem k_X12_hasPart (d : Nat) (hd : 0 ≤ d) (a1 : Int32) (a2 : Int32) (a3 : Int32) (m : mm_M) (r : Int32) (hres : f_X12_hasPart a1 a2 a3 m = some r) : mm_X d 252 [.inr (.inr (some (12, 0))), .inl a1, .inl a2, .inl a3] m (.inl (some (.inl r)), m, 0, 0) := by
  unfold f_X12_hasPart at hres
  show mm_E d 252 (0, [some (.inr (.inr (some (12, 0)))), some (.inl a1), some (.inl a2), some (.inl a3)], [], m) (.inl (some (.inl r)), m, 0, 0)
  refine e_steps 1 (s' := (1, [some (.inr (.inr (some (12, 0)))), some (.inl a1), some (.inl a2), some (.inl a3)], [.inl a2], m)) rfl ?_
  refine e_if (s1 := (34, [some (.inr (.inr (some (12, 0)))), some (.inl a1), some (.inl a2), some (.inl a3)], [], m)) (s2 := (4, [some (.inr (.inr (some (12, 0)))), some (.inl a1), some (.inl a2), some (.inl a3)], [], m)) rfl hres (fun hc hres => ?_) (fun hc hres => ?_)
  · refine e_mask (L' := [none, none, none, none]) rfl ?_
    refine e_steps 1 (s' := (35, [none, none, none, none], [.inl 0], m)) rfl ?_
    obtain rfl := Option.some.inj hres
    exact e_ret rfl rfl
  · refine e_steps 1 (s' := (5, [some (.inr (.inr (some (12, 0)))), some (.inl a1), some (.inl a2), some (.inl a3)], [.inl a3], m)) rfl ?_
    refine e_if (s1 := (34, [some (.inr (.inr (some (12, 0)))), some (.inl a1), some (.inl a2), some (.inl a3)], [], m)) (s2 := (8, [some (.inr (.inr (some (12, 0)))), some (.inl a1), some (.inl a2), some (.inl a3)], [], m)) rfl hres (fun hc hres => ?_) (fun hc hres => ?_)
    · refine e_mask (L' := [none, none, none, none]) rfl ?_
      refine e_steps 1 (s' := (35, [none, none, none, none], [.inl 0], m)) rfl ?_
      obtain rfl := Option.some.inj hres
      exact e_ret rfl rfl
    · refine e_steps 4 (s' := (14, [some (.inr (.inr (some (12, 0)))), some (.inl a1), some (.inl a2), some (.inl a3)], [.inl a1, .inr (.inr (some (130, 0))), .inl a2], m)) rfl ?_
      refine e_gd (s1 := (15, [some (.inr (.inr (some (12, 0)))), some (.inl a1), some (.inl a2), some (.inl a3)], [.inl (m 130 0 a1.toNatClampNeg), .inl a2], m)) rfl hres (fun hc hres => ?_)
      refine e_if (s1 := (34, [some (.inr (.inr (some (12, 0)))), some (.inl a1), some (.inl a2), some (.inl a3)], [], m)) (s2 := (18, [some (.inr (.inr (some (12, 0)))), some (.inl a1), some (.inl a2), some (.inl a3)], [], m)) rfl hres (fun hc hres => ?_) (fun hc hres => ?_)
      · refine e_mask (L' := [none, none, none, none]) rfl ?_
        refine e_steps 1 (s' := (35, [none, none, none, none], [.inl 0], m)) rfl ?_
        obtain rfl := Option.some.inj hres
        exact e_ret rfl rfl
      · refine e_steps 4 (s' := (24, [some (.inr (.inr (some (12, 0)))), some (.inl a1), some (.inl a2), some (.inl a3)], [.inl a1, .inr (.inr (some (130, 0))), .inl a3], m)) rfl ?_
        refine e_gd (s1 := (25, [some (.inr (.inr (some (12, 0)))), some (.inl a1), some (.inl a2), some (.inl a3)], [.inl (m 130 0 a1.toNatClampNeg), .inl a3], m)) rfl hres (fun hc hres => ?_)
        refine e_steps 2 (s' := (27, [some (.inr (.inr (some (12, 0)))), some (.inl a1), some (.inl a2), some (.inl a3)], [.inl ((m 130 0 a1.toNatClampNeg) - a2), .inl a3], m)) rfl ?_
        refine e_if (s1 := (34, [some (.inr (.inr (some (12, 0)))), some (.inl a1), some (.inl a2), some (.inl a3)], [], m)) (s2 := (30, [some (.inr (.inr (some (12, 0)))), some (.inl a1), some (.inl a2), some (.inl a3)], [], m)) rfl hres (fun hc hres => ?_) (fun hc hres => ?_)
        · refine e_mask (L' := [none, none, none, none]) rfl ?_
          refine e_steps 1 (s' := (35, [none, none, none, none], [.inl 0], m)) rfl ?_
          obtain rfl := Option.some.inj hres
          exact e_ret rfl rfl
        · refine e_steps 2 (s' := (35, [some (.inr (.inr (some (12, 0)))), some (.inl a1), some (.inl a2), some (.inl a3)], [.inl 1], m)) rfl ?_
          refine e_mask (L' := [none, none, none, none]) rfl ?_
          obtain rfl := Option.some.inj hres
          exact e_ret rfl rfl
/-- GlassThreadsModel.copy(IIIII)I -/
def f_X12_copy (a1 : Int32) (a2 : Int32) (a3 : Int32) (a4 : Int32) (a5 : Int32) (m : mm_M) : Option (Int32 × mm_M) :=
mm_let (mm_w m 12 0 3 0) fun m1 =>
mm_b1 (f_X12_isSheet a1 m1) fun r2 =>
if r2 = 0 then (mm_b2 (f_X12_fail 1 m1) fun r3 m4 =>
some (r3, m4))
else (mm_b1 (f_X12_isSheet a3 m1) fun r5 =>
if r5 ≠ 0 then (if mm_in a1 8 then (
if (m1 130 0 a1.toNatClampNeg) < 0 then (some (1, m1))
else (if mm_in a3 8 then (
if 0 ≤ (m1 130 0 a3.toNatClampNeg) then (if mm_in a1 8 then (
if mm_in a3 8 then (
if (m1 129 0 a1.toNatClampNeg) = (m1 129 0 a3.toNatClampNeg) then (mm_b1 (f_X12_hasPart a1 a2 a5 m1) fun r6 =>
if r6 = 0 then (some (3, m1))
else (mm_b1 (f_X12_hasPart a3 a4 a5 m1) fun r7 =>
if r7 ≠ 0 then ((mm_b1 (mm_loop (σ := Int32 × mm_M) (ρ := (mm_M)) (fun (s : Int32 × mm_M) => match s with
| (v9, m10) => (if a5 ≤ v9 then (some (.inr m10))
else (if mm_in (((24 * a1) + a2) + v9) 192 then (
if mm_in v9 24 then (
mm_let (mm_w m10 132 0 v9.toNatClampNeg (m10 131 0 (((24 * a1) + a2) + v9).toNatClampNeg)) fun m11 =>
mm_let (v9 + 1) fun v12 =>
some (.inl (v12, m11))) else none) else none) : Option ((Int32 × mm_M) ⊕ ((mm_M))))) mm_fu (0, m1)) fun m13 =>
(mm_b1 (mm_loop (σ := Int32 × mm_M) (ρ := (mm_M)) (fun (s : Int32 × mm_M) => match s with
| (v15, m16) => (if a5 ≤ v15 then (some (.inr m16))
else (if mm_in v15 24 then (
if mm_in (((24 * a3) + a4) + v15) 192 then (
mm_let (mm_w m16 131 0 ((((24 * a3) + a4) + v15).toNatClampNeg) (m16 132 0 v15.toNatClampNeg)) fun m17 =>
mm_let (v15 + 1) fun v18 =>
some (.inl (v18, m17))) else none) else none) : Option ((Int32 × mm_M) ⊕ ((mm_M))))) mm_fu (0, m13)) fun m19 =>
some (0, m19))))
else (some (3, m1))))
else (some (2, m1))) else none) else none)
else (some (1, m1))) else none)) else none)
else (mm_b2 (f_X12_fail 1 m1) fun r20 m21 =>
some (r20, m21)))
set_option maxHeartbeats 4000000 in
set_option maxRecDepth 100000 in
theorem k_X12_copy (d : Nat) (hd : 2 ≤ d) (a1 : Int32) (a2 : Int32) (a3 : Int32) (a4 : Int32) (a5 : Int32) (m : mm_M) (r : Int32 × mm_M) (hres : f_X12_copy a1 a2 a3 a4 a5 m = some r) : mm_X d 253 [.inr (.inr (some (12, 0))), .inl a1, .inl a2, .inl a3, .inl a4, .inl a5] m (.inl (some (.inl r.1)), r.2, 0, 0) := by
  unfold f_X12_copy at hres
  obtain ⟨d, rfl⟩ : ∃ e, d = e + 1 := ⟨d - 1, by omega⟩
  show mm_E (d + 1) 253 (0, [some (.inr (.inr (some (12, 0)))), some (.inl a1), some (.inl a2), some (.inl a3), some (.inl a4), some (.inl a5), none], [], m) (.inl (some (.inl r.1)), r.2, 0, 0)
  refine e_steps 3 (s' := (5, [some (.inr (.inr (some (12, 0)))), some (.inl a1), some (.inl a2), some (.inl a3), some (.inl a4), some (.inl a5), none], [], (mm_w m 12 0 3 0))) rfl ?_
  refine e_let (fun (m1 : mm_M) => (5, [some (.inr (.inr (some (12, 0)))), some (.inl a1), some (.inl a2), some (.inl a3), some (.inl a4), some (.inl a5), none], [], m1)) hres (fun m1 hres => ?_)
  refine e_steps 2 (s' := (7, [some (.inr (.inr (some (12, 0)))), some (.inl a1), some (.inl a2), some (.inl a3), some (.inl a4), some (.inl a5), none], [.inl a1, .inr (.inr (some (12, 0)))], m1)) rfl ?_
  obtain ⟨r2, hv, hres⟩ := mm_b1_some hres
  refine e_call0 (pc := 10) (L := [some (.inr (.inr (some (12, 0)))), some (.inl a1), some (.inl a2), some (.inl a3), some (.inl a4), some (.inl a5), none]) (st := []) (m' := m1) (v := some (.inl r2)) rfl (k_X12_isSheet d (by omega) a1 _ _ hv) ?_
  show mm_E (d + 1) 253 (10, [some (.inr (.inr (some (12, 0)))), some (.inl a1), some (.inl a2), some (.inl a3), some (.inl a4), some (.inl a5), none], [.inl r2], m1) (.inl (some (.inl r.1)), r.2, 0, 0)
  refine e_if (s1 := (21, [some (.inr (.inr (some (12, 0)))), some (.inl a1), some (.inl a2), some (.inl a3), some (.inl a4), some (.inl a5), none], [], m1)) (s2 := (13, [some (.inr (.inr (some (12, 0)))), some (.inl a1), some (.inl a2), some (.inl a3), some (.inl a4), some (.inl a5), none], [], m1)) rfl hres (fun hc hres => ?_) (fun hc hres => ?_)
  · refine e_mask (L' := [some (.inr (.inr (some (12, 0)))), none, none, none, none, none, none]) rfl ?_
    refine e_steps 2 (s' := (23, [some (.inr (.inr (some (12, 0)))), none, none, none, none, none, none], [.inl 1, .inr (.inr (some (12, 0)))], m1)) rfl ?_
    obtain ⟨r3, m4, hv, hres⟩ := mm_b2_some hres
    refine e_call0 (pc := 26) (L := [some (.inr (.inr (some (12, 0)))), none, none, none, none, none, none]) (st := []) (m' := m4) (v := some (.inl r3)) rfl (k_X12_fail d (by omega) 1 _ _ hv) ?_
    show mm_E (d + 1) 253 (26, [some (.inr (.inr (some (12, 0)))), none, none, none, none, none, none], [.inl r3], m4) (.inl (some (.inl r.1)), r.2, 0, 0)
    obtain rfl := Option.some.inj hres
    exact e_ret rfl rfl
  · refine e_steps 2 (s' := (15, [some (.inr (.inr (some (12, 0)))), some (.inl a1), some (.inl a2), some (.inl a3), some (.inl a4), some (.inl a5), none], [.inl a3, .inr (.inr (some (12, 0)))], m1)) rfl ?_
    obtain ⟨r5, hv, hres⟩ := mm_b1_some hres
    refine e_call0 (pc := 18) (L := [some (.inr (.inr (some (12, 0)))), some (.inl a1), some (.inl a2), some (.inl a3), some (.inl a4), some (.inl a5), none]) (st := []) (m' := m1) (v := some (.inl r5)) rfl (k_X12_isSheet d (by omega) a3 _ _ hv) ?_
    show mm_E (d + 1) 253 (18, [some (.inr (.inr (some (12, 0)))), some (.inl a1), some (.inl a2), some (.inl a3), some (.inl a4), some (.inl a5), none], [.inl r5], m1) (.inl (some (.inl r.1)), r.2, 0, 0)
    refine e_if (s1 := (27, [some (.inr (.inr (some (12, 0)))), some (.inl a1), some (.inl a2), some (.inl a3), some (.inl a4), some (.inl a5), none], [], m1)) (s2 := (21, [some (.inr (.inr (some (12, 0)))), some (.inl a1), some (.inl a2), some (.inl a3), some (.inl a4), some (.inl a5), none], [], m1)) rfl hres (fun hc hres => ?_) (fun hc hres => ?_)
    · refine e_steps 3 (s' := (32, [some (.inr (.inr (some (12, 0)))), some (.inl a1), some (.inl a2), some (.inl a3), some (.inl a4), some (.inl a5), none], [.inl a1, .inr (.inr (some (130, 0)))], m1)) rfl ?_
      refine e_gd (s1 := (33, [some (.inr (.inr (some (12, 0)))), some (.inl a1), some (.inl a2), some (.inl a3), some (.inl a4), some (.inl a5), none], [.inl (m1 130 0 a1.toNatClampNeg)], m1)) rfl hres (fun hc hres => ?_)
      refine e_if (s1 := (45, [some (.inr (.inr (some (12, 0)))), some (.inl a1), some (.inl a2), some (.inl a3), some (.inl a4), some (.inl a5), none], [], m1)) (s2 := (36, [some (.inr (.inr (some (12, 0)))), some (.inl a1), some (.inl a2), some (.inl a3), some (.inl a4), some (.inl a5), none], [], m1)) rfl hres (fun hc hres => ?_) (fun hc hres => ?_)
      · refine e_mask (L' := [none, none, none, none, none, none, none]) rfl ?_
        refine e_steps 1 (s' := (46, [none, none, none, none, none, none, none], [.inl 1], m1)) rfl ?_
        obtain rfl := Option.some.inj hres
        exact e_ret rfl rfl
      · refine e_steps 3 (s' := (41, [some (.inr (.inr (some (12, 0)))), some (.inl a1), some (.inl a2), some (.inl a3), some (.inl a4), some (.inl a5), none], [.inl a3, .inr (.inr (some (130, 0)))], m1)) rfl ?_
        refine e_gd (s1 := (42, [some (.inr (.inr (some (12, 0)))), some (.inl a1), some (.inl a2), some (.inl a3), some (.inl a4), some (.inl a5), none], [.inl (m1 130 0 a3.toNatClampNeg)], m1)) rfl hres (fun hc hres => ?_)
        refine e_if (s1 := (47, [some (.inr (.inr (some (12, 0)))), some (.inl a1), some (.inl a2), some (.inl a3), some (.inl a4), some (.inl a5), none], [], m1)) (s2 := (45, [some (.inr (.inr (some (12, 0)))), some (.inl a1), some (.inl a2), some (.inl a3), some (.inl a4), some (.inl a5), none], [], m1)) rfl hres (fun hc hres => ?_) (fun hc hres => ?_)
        · refine e_steps 3 (s' := (52, [some (.inr (.inr (some (12, 0)))), some (.inl a1), some (.inl a2), some (.inl a3), some (.inl a4), some (.inl a5), none], [.inl a1, .inr (.inr (some (129, 0)))], m1)) rfl ?_
          refine e_gd (s1 := (53, [some (.inr (.inr (some (12, 0)))), some (.inl a1), some (.inl a2), some (.inl a3), some (.inl a4), some (.inl a5), none], [.inl (m1 129 0 a1.toNatClampNeg)], m1)) rfl hres (fun hc hres => ?_)
          refine e_steps 3 (s' := (58, [some (.inr (.inr (some (12, 0)))), some (.inl a1), some (.inl a2), some (.inl a3), some (.inl a4), some (.inl a5), none], [.inl a3, .inr (.inr (some (129, 0))), .inl (m1 129 0 a1.toNatClampNeg)], m1)) rfl ?_
          refine e_gd (s1 := (59, [some (.inr (.inr (some (12, 0)))), some (.inl a1), some (.inl a2), some (.inl a3), some (.inl a4), some (.inl a5), none], [.inl (m1 129 0 a3.toNatClampNeg), .inl (m1 129 0 a1.toNatClampNeg)], m1)) rfl hres (fun hc hres => ?_)
          refine e_if (s1 := (64, [some (.inr (.inr (some (12, 0)))), some (.inl a1), some (.inl a2), some (.inl a3), some (.inl a4), some (.inl a5), none], [], m1)) (s2 := (62, [some (.inr (.inr (some (12, 0)))), some (.inl a1), some (.inl a2), some (.inl a3), some (.inl a4), some (.inl a5), none], [], m1)) rfl hres (fun hc hres => ?_) (fun hc hres => ?_)
          · refine e_steps 4 (s' := (69, [some (.inr (.inr (some (12, 0)))), some (.inl a1), some (.inl a2), some (.inl a3), some (.inl a4), some (.inl a5), none], [.inl a5, .inl a2, .inl a1, .inr (.inr (some (12, 0)))], m1)) rfl ?_
            obtain ⟨r6, hv, hres⟩ := mm_b1_some hres
            refine e_call0 (pc := 72) (L := [some (.inr (.inr (some (12, 0)))), some (.inl a1), some (.inl a2), some (.inl a3), some (.inl a4), some (.inl a5), none]) (st := []) (m' := m1) (v := some (.inl r6)) rfl (k_X12_hasPart d (by omega) a1 a2 a5 _ _ hv) ?_
            show mm_E (d + 1) 253 (72, [some (.inr (.inr (some (12, 0)))), some (.inl a1), some (.inl a2), some (.inl a3), some (.inl a4), some (.inl a5), none], [.inl r6], m1) (.inl (some (.inl r.1)), r.2, 0, 0)
            refine e_if (s1 := (87, [some (.inr (.inr (some (12, 0)))), some (.inl a1), some (.inl a2), some (.inl a3), some (.inl a4), some (.inl a5), none], [], m1)) (s2 := (75, [some (.inr (.inr (some (12, 0)))), some (.inl a1), some (.inl a2), some (.inl a3), some (.inl a4), some (.inl a5), none], [], m1)) rfl hres (fun hc hres => ?_) (fun hc hres => ?_)
            · refine e_mask (L' := [none, none, none, none, none, none, none]) rfl ?_
              refine e_steps 1 (s' := (88, [none, none, none, none, none, none, none], [.inl 3], m1)) rfl ?_
              obtain rfl := Option.some.inj hres
              exact e_ret rfl rfl
            · refine e_steps 4 (s' := (81, [some (.inr (.inr (some (12, 0)))), some (.inl a1), some (.inl a2), some (.inl a3), some (.inl a4), some (.inl a5), none], [.inl a5, .inl a4, .inl a3, .inr (.inr (some (12, 0)))], m1)) rfl ?_
              obtain ⟨r7, hv, hres⟩ := mm_b1_some hres
              refine e_call0 (pc := 84) (L := [some (.inr (.inr (some (12, 0)))), some (.inl a1), some (.inl a2), some (.inl a3), some (.inl a4), some (.inl a5), none]) (st := []) (m' := m1) (v := some (.inl r7)) rfl (k_X12_hasPart d (by omega) a3 a4 a5 _ _ hv) ?_
              show mm_E (d + 1) 253 (84, [some (.inr (.inr (some (12, 0)))), some (.inl a1), some (.inl a2), some (.inl a3), some (.inl a4), some (.inl a5), none], [.inl r7], m1) (.inl (some (.inl r.1)), r.2, 0, 0)
              refine e_if (s1 := (89, [some (.inr (.inr (some (12, 0)))), some (.inl a1), some (.inl a2), some (.inl a3), some (.inl a4), some (.inl a5), none], [], m1)) (s2 := (87, [some (.inr (.inr (some (12, 0)))), some (.inl a1), some (.inl a2), some (.inl a3), some (.inl a4), some (.inl a5), none], [], m1)) rfl hres (fun hc hres => ?_) (fun hc hres => ?_)
              · refine e_steps 2 (s' := (92, [some (.inr (.inr (some (12, 0)))), some (.inl a1), some (.inl a2), some (.inl a3), some (.inl a4), some (.inl a5), some (.inl 0)], [], m1)) rfl ?_
                refine e_mask (L' := [some (.inr (.inr (some (12, 0)))), some (.inl a1), some (.inl a2), some (.inl a3), some (.inl a4), some (.inl a5), some (.inl 0)]) rfl ?_
                refine e_loopb (φ := fun s => (92, [some (.inr (.inr (some (12, 0)))), some (.inl a1), some (.inl a2), some (.inl a3), some (.inl a4), some (.inl a5), some (.inl s.1)], [], s.2)) (K := fun t => mm_E (d + 1) 253 (126, [some (.inr (.inr (some (12, 0)))), none, none, some (.inl a3), some (.inl a4), some (.inl a5), none], [], t) (.inl (some (.inl r.1)), r.2, 0, 0)) hres (fun m13 hres => ?_) (fun s ol8 hres hcl8 hxl8 => ?_)
                · show mm_E (d + 1) 253 (126, [some (.inr (.inr (some (12, 0)))), none, none, some (.inl a3), some (.inl a4), some (.inl a5), none], [], m13) (.inl (some (.inl r.1)), r.2, 0, 0)
                  refine e_steps 2 (s' := (129, [some (.inr (.inr (some (12, 0)))), none, none, some (.inl a3), some (.inl a4), some (.inl a5), some (.inl 0)], [], m13)) rfl ?_
                  refine e_mask (L' := [some (.inr (.inr (some (12, 0)))), none, none, some (.inl a3), some (.inl a4), some (.inl a5), some (.inl 0)]) rfl ?_
                  refine e_loopb (φ := fun s => (129, [some (.inr (.inr (some (12, 0)))), none, none, some (.inl a3), some (.inl a4), some (.inl a5), some (.inl s.1)], [], s.2)) (K := fun t => mm_E (d + 1) 253 (164, [none, none, none, none, none, none, none], [], t) (.inl (some (.inl r.1)), r.2, 0, 0)) hres (fun m19 hres => ?_) (fun s ol14 hres hcl14 hxl14 => ?_)
                  · show mm_E (d + 1) 253 (164, [none, none, none, none, none, none, none], [], m19) (.inl (some (.inl r.1)), r.2, 0, 0)
                    refine e_steps 1 (s' := (165, [none, none, none, none, none, none, none], [.inl 0], m19)) rfl ?_
                    obtain rfl := Option.some.inj hres
                    exact e_ret rfl rfl
                  · obtain ⟨v15, m16⟩ := s
                    show mm_E (d + 1) 253 (129, [some (.inr (.inr (some (12, 0)))), none, none, some (.inl a3), some (.inl a4), some (.inl a5), some (.inl v15)], [], m16) (.inl (some (.inl r.1)), r.2, 0, 0)
                    refine e_steps 2 (s' := (133, [some (.inr (.inr (some (12, 0)))), none, none, some (.inl a3), some (.inl a4), some (.inl a5), some (.inl v15)], [.inl a5, .inl v15], m16)) rfl ?_
                    refine e_if (s1 := (164, [some (.inr (.inr (some (12, 0)))), none, none, some (.inl a3), some (.inl a4), some (.inl a5), some (.inl v15)], [], m16)) (s2 := (136, [some (.inr (.inr (some (12, 0)))), none, none, some (.inl a3), some (.inl a4), some (.inl a5), some (.inl v15)], [], m16)) rfl hres (fun hc hres => ?_) (fun hc hres => ?_)
                    · obtain rfl := Option.some.inj hres
                      exact e_mask (L' := [none, none, none, none, none, none, none]) rfl (hxl14 _ rfl)
                    · refine e_steps 12 (s' := (156, [some (.inr (.inr (some (12, 0)))), none, none, some (.inl a3), some (.inl a4), some (.inl a5), some (.inl v15)], [.inl v15, .inr (.inr (some (132, 0))), .inl (((24 * a3) + a4) + v15), .inr (.inr (some (131, 0)))], m16)) rfl ?_
                      refine e_gd (s1 := (157, [some (.inr (.inr (some (12, 0)))), none, none, some (.inl a3), some (.inl a4), some (.inl a5), some (.inl v15)], [.inl (m16 132 0 v15.toNatClampNeg), .inl (((24 * a3) + a4) + v15), .inr (.inr (some (131, 0)))], m16)) rfl hres (fun hc hres => ?_)
                      refine e_gd (s1 := (158, [some (.inr (.inr (some (12, 0)))), none, none, some (.inl a3), some (.inl a4), some (.inl a5), some (.inl v15)], [], (mm_w m16 131 0 ((((24 * a3) + a4) + v15).toNatClampNeg) (m16 132 0 v15.toNatClampNeg)))) rfl hres (fun hc hres => ?_)
                      refine e_let (fun (m17 : mm_M) => (158, [some (.inr (.inr (some (12, 0)))), none, none, some (.inl a3), some (.inl a4), some (.inl a5), some (.inl v15)], [], m17)) hres (fun m17 hres => ?_)
                      refine e_steps 1 (s' := (161, [some (.inr (.inr (some (12, 0)))), none, none, some (.inl a3), some (.inl a4), some (.inl a5), some (.inl (v15 + 1))], [], m17)) rfl ?_
                      refine e_let (fun (v18 : Int32) => (161, [some (.inr (.inr (some (12, 0)))), none, none, some (.inl a3), some (.inl a4), some (.inl a5), some (.inl v18)], [], m17)) hres (fun v18 hres => ?_)
                      refine e_steps 1 (s' := (129, [some (.inr (.inr (some (12, 0)))), none, none, some (.inl a3), some (.inl a4), some (.inl a5), some (.inl v18)], [], m17)) rfl ?_
                      obtain rfl := Option.some.inj hres
                      exact e_mask (L' := [some (.inr (.inr (some (12, 0)))), none, none, some (.inl a3), some (.inl a4), some (.inl a5), some (.inl v18)]) rfl (hcl14 _ rfl)
                · obtain ⟨v9, m10⟩ := s
                  show mm_E (d + 1) 253 (92, [some (.inr (.inr (some (12, 0)))), some (.inl a1), some (.inl a2), some (.inl a3), some (.inl a4), some (.inl a5), some (.inl v9)], [], m10) (.inl (some (.inl r.1)), r.2, 0, 0)
                  refine e_steps 2 (s' := (96, [some (.inr (.inr (some (12, 0)))), some (.inl a1), some (.inl a2), some (.inl a3), some (.inl a4), some (.inl a5), some (.inl v9)], [.inl a5, .inl v9], m10)) rfl ?_
                  refine e_if (s1 := (126, [some (.inr (.inr (some (12, 0)))), some (.inl a1), some (.inl a2), some (.inl a3), some (.inl a4), some (.inl a5), some (.inl v9)], [], m10)) (s2 := (99, [some (.inr (.inr (some (12, 0)))), some (.inl a1), some (.inl a2), some (.inl a3), some (.inl a4), some (.inl a5), some (.inl v9)], [], m10)) rfl hres (fun hc hres => ?_) (fun hc hres => ?_)
                  · obtain rfl := Option.some.inj hres
                    exact e_mask (L' := [some (.inr (.inr (some (12, 0)))), none, none, some (.inl a3), some (.inl a4), some (.inl a5), none]) rfl (hxl8 _ rfl)
                  · refine e_steps 12 (s' := (118, [some (.inr (.inr (some (12, 0)))), some (.inl a1), some (.inl a2), some (.inl a3), some (.inl a4), some (.inl a5), some (.inl v9)], [.inl (((24 * a1) + a2) + v9), .inr (.inr (some (131, 0))), .inl v9, .inr (.inr (some (132, 0)))], m10)) rfl ?_
                    refine e_gd (s1 := (119, [some (.inr (.inr (some (12, 0)))), some (.inl a1), some (.inl a2), some (.inl a3), some (.inl a4), some (.inl a5), some (.inl v9)], [.inl (m10 131 0 (((24 * a1) + a2) + v9).toNatClampNeg), .inl v9, .inr (.inr (some (132, 0)))], m10)) rfl hres (fun hc hres => ?_)
                    refine e_gd (s1 := (120, [some (.inr (.inr (some (12, 0)))), some (.inl a1), some (.inl a2), some (.inl a3), some (.inl a4), some (.inl a5), some (.inl v9)], [], (mm_w m10 132 0 v9.toNatClampNeg (m10 131 0 (((24 * a1) + a2) + v9).toNatClampNeg)))) rfl hres (fun hc hres => ?_)
                    refine e_let (fun (m11 : mm_M) => (120, [some (.inr (.inr (some (12, 0)))), some (.inl a1), some (.inl a2), some (.inl a3), some (.inl a4), some (.inl a5), some (.inl v9)], [], m11)) hres (fun m11 hres => ?_)
                    refine e_steps 1 (s' := (123, [some (.inr (.inr (some (12, 0)))), some (.inl a1), some (.inl a2), some (.inl a3), some (.inl a4), some (.inl a5), some (.inl (v9 + 1))], [], m11)) rfl ?_
                    refine e_let (fun (v12 : Int32) => (123, [some (.inr (.inr (some (12, 0)))), some (.inl a1), some (.inl a2), some (.inl a3), some (.inl a4), some (.inl a5), some (.inl v12)], [], m11)) hres (fun v12 hres => ?_)
                    refine e_steps 1 (s' := (92, [some (.inr (.inr (some (12, 0)))), some (.inl a1), some (.inl a2), some (.inl a3), some (.inl a4), some (.inl a5), some (.inl v12)], [], m11)) rfl ?_
                    obtain rfl := Option.some.inj hres
                    exact e_mask (L' := [some (.inr (.inr (some (12, 0)))), some (.inl a1), some (.inl a2), some (.inl a3), some (.inl a4), some (.inl a5), some (.inl v12)]) rfl (hcl8 _ rfl)
              · refine e_mask (L' := [none, none, none, none, none, none, none]) rfl ?_
                refine e_steps 1 (s' := (88, [none, none, none, none, none, none, none], [.inl 3], m1)) rfl ?_
                obtain rfl := Option.some.inj hres
                exact e_ret rfl rfl
          · refine e_steps 1 (s' := (63, [some (.inr (.inr (some (12, 0)))), some (.inl a1), some (.inl a2), some (.inl a3), some (.inl a4), some (.inl a5), none], [.inl 2], m1)) rfl ?_
            obtain rfl := Option.some.inj hres
            exact e_ret rfl rfl
        · refine e_mask (L' := [none, none, none, none, none, none, none]) rfl ?_
          refine e_steps 1 (s' := (46, [none, none, none, none, none, none, none], [.inl 1], m1)) rfl ?_
          obtain rfl := Option.some.inj hres
          exact e_ret rfl rfl
    · refine e_mask (L' := [some (.inr (.inr (some (12, 0)))), none, none, none, none, none, none]) rfl ?_
      refine e_steps 2 (s' := (23, [some (.inr (.inr (some (12, 0)))), none, none, none, none, none, none], [.inl 1, .inr (.inr (some (12, 0)))], m1)) rfl ?_
      obtain ⟨r20, m21, hv, hres⟩ := mm_b2_some hres
      refine e_call0 (pc := 26) (L := [some (.inr (.inr (some (12, 0)))), none, none, none, none, none, none]) (st := []) (m' := m21) (v := some (.inl r20)) rfl (k_X12_fail d (by omega) 1 _ _ hv) ?_
      show mm_E (d + 1) 253 (26, [some (.inr (.inr (some (12, 0)))), none, none, none, none, none, none], [.inl r20], m21) (.inl (some (.inl r.1)), r.2, 0, 0)
      obtain rfl := Option.some.inj hres
      exact e_ret rfl rfl
/-- GlassThreadsModel.rowOf(III)I -/
def f_X12_rowOf (a1 : Int32) (a2 : Int32) (a3 : Int32) (m : mm_M) : Option (Int32 × mm_M) :=
mm_let (mm_w m 12 0 3 0) fun m1 =>
mm_b1 (f_X12_isSheet a1 m1) fun r2 =>
if r2 ≠ 0 then (mm_b1 (f_X12_isIn a3 0 8 m1) fun r3 =>
if r3 ≠ 0 then (if mm_in a1 8 then (
if 0 ≤ (m1 130 0 a1.toNatClampNeg) then (mm_b1 (f_X12_hasPart a1 a2 (3 * a3) m1) fun r4 =>
if r4 ≠ 0 then ((mm_b1 (mm_loop (σ := Int32) (ρ := (Unit) ⊕ (Unit)) (fun (v6 : Int32) => (if a3 ≤ v6 then (some (.inr (.inr ())))
else (mm_let (((24 * a1) + a2) + (3 * v6)) fun v7 =>
if mm_in v7 192 then (
if (m1 131 0 v7.toNatClampNeg) < 0 then (some (.inr (.inl ())))
else (if mm_in (v7 + 1) 192 then (
if (m1 131 0 (v7 + 1).toNatClampNeg) < 0 then (some (.inr (.inl ())))
else (if mm_in (v7 + 2) 192 then (
if (m1 131 0 (v7 + 2).toNatClampNeg) < 0 then (some (.inr (.inl ())))
else (if mm_in (v7 + 2) 192 then (
if 4 < (m1 131 0 (v7 + 2).toNatClampNeg) then (some (.inr (.inl ())))
else (if v6 ≤ 0 then (mm_let (v6 + 1) fun v8 =>
some (.inl v8))
else (if mm_in v7 192 then (
if mm_in (v7 - 3) 192 then (
if (m1 131 0 (v7 - 3).toNatClampNeg) ≤ (m1 131 0 v7.toNatClampNeg) then (mm_let (v6 + 1) fun v9 =>
some (.inl v9))
else (some (.inr (.inl ())))) else none) else none))) else none)) else none)) else none)) else none) : Option ((Int32) ⊕ ((Unit) ⊕ (Unit))))) mm_fu 0) fun t => match t with
| .inl _ => some (4, m1)
| .inr _ => mm_let (mm_w m1 12 0 46 1) fun m10 =>
mm_let (mm_w m10 12 0 57 a3) fun m11 =>
(mm_b1 (mm_loop (σ := Int32 × mm_M) (ρ := (mm_M)) (fun (s : Int32 × mm_M) => match s with
| (v13, m14) => (if a3 ≤ v13 then (some (.inr m14))
else (mm_let (((24 * a1) + a2) + (3 * v13)) fun v15 =>
if mm_in v15 192 then (
if mm_in v13 60 then (
mm_let (mm_w m14 98 0 v13.toNatClampNeg (m14 131 0 v15.toNatClampNeg)) fun m16 =>
if mm_in (v15 + 1) 192 then (
if mm_in v13 60 then (
mm_let (mm_w m16 99 0 v13.toNatClampNeg (m16 131 0 (v15 + 1).toNatClampNeg)) fun m17 =>
if mm_in (v15 + 2) 192 then (
if mm_in v13 60 then (
mm_let (mm_w m17 100 0 v13.toNatClampNeg (m17 131 0 (v15 + 2).toNatClampNeg)) fun m18 =>
mm_let (v13 + 1) fun v19 =>
some (.inl (v19, m18))) else none) else none) else none) else none) else none) else none) : Option ((Int32 × mm_M) ⊕ ((mm_M))))) mm_fu (0, m11)) fun m20 =>
some (0, m20))))
else (some (3, m1)))
else (some (1, m1))) else none)
else (mm_b2 (f_X12_fail 2 m1) fun r21 m22 =>
some (r21, m22)))
else (mm_b2 (f_X12_fail 1 m1) fun r23 m24 =>
some (r23, m24))
set_option maxHeartbeats 4000000 in
set_option maxRecDepth 100000 in
theorem k_X12_rowOf (d : Nat) (hd : 2 ≤ d) (a1 : Int32) (a2 : Int32) (a3 : Int32) (m : mm_M) (r : Int32 × mm_M) (hres : f_X12_rowOf a1 a2 a3 m = some r) : mm_X d 254 [.inr (.inr (some (12, 0))), .inl a1, .inl a2, .inl a3] m (.inl (some (.inl r.1)), r.2, 0, 0) := by
  unfold f_X12_rowOf at hres
  obtain ⟨d, rfl⟩ : ∃ e, d = e + 1 := ⟨d - 1, by omega⟩
  show mm_E (d + 1) 254 (0, [some (.inr (.inr (some (12, 0)))), some (.inl a1), some (.inl a2), some (.inl a3), none, none], [], m) (.inl (some (.inl r.1)), r.2, 0, 0)
  refine e_steps 3 (s' := (5, [some (.inr (.inr (some (12, 0)))), some (.inl a1), some (.inl a2), some (.inl a3), none, none], [], (mm_w m 12 0 3 0))) rfl ?_
  refine e_let (fun (m1 : mm_M) => (5, [some (.inr (.inr (some (12, 0)))), some (.inl a1), some (.inl a2), some (.inl a3), none, none], [], m1)) hres (fun m1 hres => ?_)
  refine e_steps 2 (s' := (7, [some (.inr (.inr (some (12, 0)))), some (.inl a1), some (.inl a2), some (.inl a3), none, none], [.inl a1, .inr (.inr (some (12, 0)))], m1)) rfl ?_
  obtain ⟨r2, hv, hres⟩ := mm_b1_some hres
  refine e_call0 (pc := 10) (L := [some (.inr (.inr (some (12, 0)))), some (.inl a1), some (.inl a2), some (.inl a3), none, none]) (st := []) (m' := m1) (v := some (.inl r2)) rfl (k_X12_isSheet d (by omega) a1 _ _ hv) ?_
  show mm_E (d + 1) 254 (10, [some (.inr (.inr (some (12, 0)))), some (.inl a1), some (.inl a2), some (.inl a3), none, none], [.inl r2], m1) (.inl (some (.inl r.1)), r.2, 0, 0)
  refine e_if (s1 := (19, [some (.inr (.inr (some (12, 0)))), some (.inl a1), some (.inl a2), some (.inl a3), none, none], [], m1)) (s2 := (13, [some (.inr (.inr (some (12, 0)))), some (.inl a1), some (.inl a2), some (.inl a3), none, none], [], m1)) rfl hres (fun hc hres => ?_) (fun hc hres => ?_)
  · refine e_steps 3 (s' := (23, [some (.inr (.inr (some (12, 0)))), some (.inl a1), some (.inl a2), some (.inl a3), none, none], [.inl 8, .inl 0, .inl a3], m1)) rfl ?_
    obtain ⟨r3, hv, hres⟩ := mm_b1_some hres
    refine e_call0 (pc := 26) (L := [some (.inr (.inr (some (12, 0)))), some (.inl a1), some (.inl a2), some (.inl a3), none, none]) (st := []) (m' := m1) (v := some (.inl r3)) rfl (k_X12_isIn d (by omega) a3 0 8 _ _ hv) ?_
    show mm_E (d + 1) 254 (26, [some (.inr (.inr (some (12, 0)))), some (.inl a1), some (.inl a2), some (.inl a3), none, none], [.inl r3], m1) (.inl (some (.inl r.1)), r.2, 0, 0)
    refine e_if (s1 := (35, [some (.inr (.inr (some (12, 0)))), some (.inl a1), some (.inl a2), some (.inl a3), none, none], [], m1)) (s2 := (29, [some (.inr (.inr (some (12, 0)))), some (.inl a1), some (.inl a2), some (.inl a3), none, none], [], m1)) rfl hres (fun hc hres => ?_) (fun hc hres => ?_)
    · refine e_steps 3 (s' := (40, [some (.inr (.inr (some (12, 0)))), some (.inl a1), some (.inl a2), some (.inl a3), none, none], [.inl a1, .inr (.inr (some (130, 0)))], m1)) rfl ?_
      refine e_gd (s1 := (41, [some (.inr (.inr (some (12, 0)))), some (.inl a1), some (.inl a2), some (.inl a3), none, none], [.inl (m1 130 0 a1.toNatClampNeg)], m1)) rfl hres (fun hc hres => ?_)
      refine e_if (s1 := (46, [some (.inr (.inr (some (12, 0)))), some (.inl a1), some (.inl a2), some (.inl a3), none, none], [], m1)) (s2 := (44, [some (.inr (.inr (some (12, 0)))), some (.inl a1), some (.inl a2), some (.inl a3), none, none], [], m1)) rfl hres (fun hc hres => ?_) (fun hc hres => ?_)
      · refine e_steps 6 (s' := (52, [some (.inr (.inr (some (12, 0)))), some (.inl a1), some (.inl a2), some (.inl a3), none, none], [.inl (3 * a3), .inl a2, .inl a1, .inr (.inr (some (12, 0)))], m1)) rfl ?_
        obtain ⟨r4, hv, hres⟩ := mm_b1_some hres
        refine e_call0 (pc := 55) (L := [some (.inr (.inr (some (12, 0)))), some (.inl a1), some (.inl a2), some (.inl a3), none, none]) (st := []) (m' := m1) (v := some (.inl r4)) rfl (k_X12_hasPart d (by omega) a1 a2 (3 * a3) _ _ hv) ?_
        show mm_E (d + 1) 254 (55, [some (.inr (.inr (some (12, 0)))), some (.inl a1), some (.inl a2), some (.inl a3), none, none], [.inl r4], m1) (.inl (some (.inl r.1)), r.2, 0, 0)
        refine e_if (s1 := (60, [some (.inr (.inr (some (12, 0)))), some (.inl a1), some (.inl a2), some (.inl a3), none, none], [], m1)) (s2 := (58, [some (.inr (.inr (some (12, 0)))), some (.inl a1), some (.inl a2), some (.inl a3), none, none], [], m1)) rfl hres (fun hc hres => ?_) (fun hc hres => ?_)
        · refine e_steps 2 (s' := (63, [some (.inr (.inr (some (12, 0)))), some (.inl a1), some (.inl a2), some (.inl a3), some (.inl 0), none], [], m1)) rfl ?_
          refine e_mask (L' := [some (.inr (.inr (some (12, 0)))), some (.inl a1), some (.inl a2), some (.inl a3), some (.inl 0), none]) rfl ?_
          refine e_loopb (φ := fun s => (63, [some (.inr (.inr (some (12, 0)))), some (.inl a1), some (.inl a2), some (.inl a3), some (.inl s), none], [], m1)) (K := fun t => match t with | .inl t => mm_E (d + 1) 254 (153, [none, none, none, none, none, none], [], m1) (.inl (some (.inl r.1)), r.2, 0, 0) | .inr t => mm_E (d + 1) 254 (161, [some (.inr (.inr (some (12, 0)))), some (.inl a1), some (.inl a2), some (.inl a3), none, none], [], m1) (.inl (some (.inl r.1)), r.2, 0, 0)) hres (fun t hres => ?_) (fun v6 ol5 hres hcl5 hxl5 => ?_)
          · rcases t with _ | _
            · show mm_E (d + 1) 254 (153, [none, none, none, none, none, none], [], m1) (.inl (some (.inl r.1)), r.2, 0, 0)
              refine e_steps 1 (s' := (154, [none, none, none, none, none, none], [.inl 4], m1)) rfl ?_
              obtain rfl := Option.some.inj hres
              exact e_ret rfl rfl
            · show mm_E (d + 1) 254 (161, [some (.inr (.inr (some (12, 0)))), some (.inl a1), some (.inl a2), some (.inl a3), none, none], [], m1) (.inl (some (.inl r.1)), r.2, 0, 0)
              refine e_steps 3 (s' := (166, [some (.inr (.inr (some (12, 0)))), some (.inl a1), some (.inl a2), some (.inl a3), none, none], [], (mm_w m1 12 0 46 1))) rfl ?_
              refine e_let (fun (m10 : mm_M) => (166, [some (.inr (.inr (some (12, 0)))), some (.inl a1), some (.inl a2), some (.inl a3), none, none], [], m10)) hres (fun m10 hres => ?_)
              refine e_steps 3 (s' := (171, [some (.inr (.inr (some (12, 0)))), some (.inl a1), some (.inl a2), some (.inl a3), none, none], [], (mm_w m10 12 0 57 a3))) rfl ?_
              refine e_let (fun (m11 : mm_M) => (171, [some (.inr (.inr (some (12, 0)))), some (.inl a1), some (.inl a2), some (.inl a3), none, none], [], m11)) hres (fun m11 hres => ?_)
              refine e_steps 2 (s' := (174, [some (.inr (.inr (some (12, 0)))), some (.inl a1), some (.inl a2), some (.inl a3), some (.inl 0), none], [], m11)) rfl ?_
              refine e_mask (L' := [some (.inr (.inr (some (12, 0)))), some (.inl a1), some (.inl a2), some (.inl a3), some (.inl 0), none]) rfl ?_
              refine e_loopb (φ := fun s => (174, [some (.inr (.inr (some (12, 0)))), some (.inl a1), some (.inl a2), some (.inl a3), some (.inl s.1), none], [], s.2)) (K := fun t => mm_E (d + 1) 254 (245, [none, none, none, none, none, none], [], t) (.inl (some (.inl r.1)), r.2, 0, 0)) hres (fun m20 hres => ?_) (fun s ol12 hres hcl12 hxl12 => ?_)
              · show mm_E (d + 1) 254 (245, [none, none, none, none, none, none], [], m20) (.inl (some (.inl r.1)), r.2, 0, 0)
                refine e_steps 1 (s' := (246, [none, none, none, none, none, none], [.inl 0], m20)) rfl ?_
                obtain rfl := Option.some.inj hres
                exact e_ret rfl rfl
              · obtain ⟨v13, m14⟩ := s
                show mm_E (d + 1) 254 (174, [some (.inr (.inr (some (12, 0)))), some (.inl a1), some (.inl a2), some (.inl a3), some (.inl v13), none], [], m14) (.inl (some (.inl r.1)), r.2, 0, 0)
                refine e_steps 2 (s' := (177, [some (.inr (.inr (some (12, 0)))), some (.inl a1), some (.inl a2), some (.inl a3), some (.inl v13), none], [.inl a3, .inl v13], m14)) rfl ?_
                refine e_if (s1 := (245, [some (.inr (.inr (some (12, 0)))), some (.inl a1), some (.inl a2), some (.inl a3), some (.inl v13), none], [], m14)) (s2 := (180, [some (.inr (.inr (some (12, 0)))), some (.inl a1), some (.inl a2), some (.inl a3), some (.inl v13), none], [], m14)) rfl hres (fun hc hres => ?_) (fun hc hres => ?_)
                · obtain rfl := Option.some.inj hres
                  exact e_mask (L' := [none, none, none, none, none, none]) rfl (hxl12 _ rfl)
                · refine e_steps 10 (s' := (193, [some (.inr (.inr (some (12, 0)))), some (.inl a1), some (.inl a2), some (.inl a3), some (.inl v13), some (.inl (((24 * a1) + a2) + (3 * v13)))], [], m14)) rfl ?_
                  refine e_let (fun (v15 : Int32) => (193, [some (.inr (.inr (some (12, 0)))), some (.inl a1), some (.inl a2), some (.inl a3), some (.inl v13), some (.inl v15)], [], m14)) hres (fun v15 hres => ?_)
                  refine e_steps 6 (s' := (205, [some (.inr (.inr (some (12, 0)))), some (.inl a1), some (.inl a2), some (.inl a3), some (.inl v13), some (.inl v15)], [.inl v15, .inr (.inr (some (131, 0))), .inl v13, .inr (.inr (some (98, 0)))], m14)) rfl ?_
                  refine e_gd (s1 := (206, [some (.inr (.inr (some (12, 0)))), some (.inl a1), some (.inl a2), some (.inl a3), some (.inl v13), some (.inl v15)], [.inl (m14 131 0 v15.toNatClampNeg), .inl v13, .inr (.inr (some (98, 0)))], m14)) rfl hres (fun hc hres => ?_)
                  refine e_gd (s1 := (207, [some (.inr (.inr (some (12, 0)))), some (.inl a1), some (.inl a2), some (.inl a3), some (.inl v13), some (.inl v15)], [], (mm_w m14 98 0 v13.toNatClampNeg (m14 131 0 v15.toNatClampNeg)))) rfl hres (fun hc hres => ?_)
                  refine e_let (fun (m16 : mm_M) => (207, [some (.inr (.inr (some (12, 0)))), some (.inl a1), some (.inl a2), some (.inl a3), some (.inl v13), some (.inl v15)], [], m16)) hres (fun m16 hres => ?_)
                  refine e_steps 8 (s' := (221, [some (.inr (.inr (some (12, 0)))), some (.inl a1), some (.inl a2), some (.inl a3), some (.inl v13), some (.inl v15)], [.inl (v15 + 1), .inr (.inr (some (131, 0))), .inl v13, .inr (.inr (some (99, 0)))], m16)) rfl ?_
                  refine e_gd (s1 := (222, [some (.inr (.inr (some (12, 0)))), some (.inl a1), some (.inl a2), some (.inl a3), some (.inl v13), some (.inl v15)], [.inl (m16 131 0 (v15 + 1).toNatClampNeg), .inl v13, .inr (.inr (some (99, 0)))], m16)) rfl hres (fun hc hres => ?_)
                  refine e_gd (s1 := (223, [some (.inr (.inr (some (12, 0)))), some (.inl a1), some (.inl a2), some (.inl a3), some (.inl v13), some (.inl v15)], [], (mm_w m16 99 0 v13.toNatClampNeg (m16 131 0 (v15 + 1).toNatClampNeg)))) rfl hres (fun hc hres => ?_)
                  refine e_let (fun (m17 : mm_M) => (223, [some (.inr (.inr (some (12, 0)))), some (.inl a1), some (.inl a2), some (.inl a3), some (.inl v13), some (.inl v15)], [], m17)) hres (fun m17 hres => ?_)
                  refine e_steps 8 (s' := (237, [some (.inr (.inr (some (12, 0)))), some (.inl a1), some (.inl a2), some (.inl a3), some (.inl v13), some (.inl v15)], [.inl (v15 + 2), .inr (.inr (some (131, 0))), .inl v13, .inr (.inr (some (100, 0)))], m17)) rfl ?_
                  refine e_gd (s1 := (238, [some (.inr (.inr (some (12, 0)))), some (.inl a1), some (.inl a2), some (.inl a3), some (.inl v13), some (.inl v15)], [.inl (m17 131 0 (v15 + 2).toNatClampNeg), .inl v13, .inr (.inr (some (100, 0)))], m17)) rfl hres (fun hc hres => ?_)
                  refine e_gd (s1 := (239, [some (.inr (.inr (some (12, 0)))), some (.inl a1), some (.inl a2), some (.inl a3), some (.inl v13), some (.inl v15)], [], (mm_w m17 100 0 v13.toNatClampNeg (m17 131 0 (v15 + 2).toNatClampNeg)))) rfl hres (fun hc hres => ?_)
                  refine e_let (fun (m18 : mm_M) => (239, [some (.inr (.inr (some (12, 0)))), some (.inl a1), some (.inl a2), some (.inl a3), some (.inl v13), some (.inl v15)], [], m18)) hres (fun m18 hres => ?_)
                  refine e_steps 1 (s' := (242, [some (.inr (.inr (some (12, 0)))), some (.inl a1), some (.inl a2), some (.inl a3), some (.inl (v13 + 1)), some (.inl v15)], [], m18)) rfl ?_
                  refine e_let (fun (v19 : Int32) => (242, [some (.inr (.inr (some (12, 0)))), some (.inl a1), some (.inl a2), some (.inl a3), some (.inl v19), some (.inl v15)], [], m18)) hres (fun v19 hres => ?_)
                  refine e_steps 1 (s' := (174, [some (.inr (.inr (some (12, 0)))), some (.inl a1), some (.inl a2), some (.inl a3), some (.inl v19), some (.inl v15)], [], m18)) rfl ?_
                  obtain rfl := Option.some.inj hres
                  exact e_mask (L' := [some (.inr (.inr (some (12, 0)))), some (.inl a1), some (.inl a2), some (.inl a3), some (.inl v19), none]) rfl (hcl12 _ rfl)
          · show mm_E (d + 1) 254 (63, [some (.inr (.inr (some (12, 0)))), some (.inl a1), some (.inl a2), some (.inl a3), some (.inl v6), none], [], m1) (.inl (some (.inl r.1)), r.2, 0, 0)
            refine e_steps 2 (s' := (66, [some (.inr (.inr (some (12, 0)))), some (.inl a1), some (.inl a2), some (.inl a3), some (.inl v6), none], [.inl a3, .inl v6], m1)) rfl ?_
            refine e_if (s1 := (161, [some (.inr (.inr (some (12, 0)))), some (.inl a1), some (.inl a2), some (.inl a3), some (.inl v6), none], [], m1)) (s2 := (69, [some (.inr (.inr (some (12, 0)))), some (.inl a1), some (.inl a2), some (.inl a3), some (.inl v6), none], [], m1)) rfl hres (fun hc hres => ?_) (fun hc hres => ?_)
            · obtain rfl := Option.some.inj hres
              exact e_mask (L' := [some (.inr (.inr (some (12, 0)))), some (.inl a1), some (.inl a2), some (.inl a3), none, none]) rfl (hxl5 _ rfl)
            · refine e_steps 10 (s' := (82, [some (.inr (.inr (some (12, 0)))), some (.inl a1), some (.inl a2), some (.inl a3), some (.inl v6), some (.inl (((24 * a1) + a2) + (3 * v6)))], [], m1)) rfl ?_
              refine e_let (fun (v7 : Int32) => (82, [some (.inr (.inr (some (12, 0)))), some (.inl a1), some (.inl a2), some (.inl a3), some (.inl v6), some (.inl v7)], [], m1)) hres (fun v7 hres => ?_)
              refine e_steps 3 (s' := (88, [some (.inr (.inr (some (12, 0)))), some (.inl a1), some (.inl a2), some (.inl a3), some (.inl v6), some (.inl v7)], [.inl v7, .inr (.inr (some (131, 0)))], m1)) rfl ?_
              refine e_gd (s1 := (89, [some (.inr (.inr (some (12, 0)))), some (.inl a1), some (.inl a2), some (.inl a3), some (.inl v6), some (.inl v7)], [.inl (m1 131 0 v7.toNatClampNeg)], m1)) rfl hres (fun hc hres => ?_)
              refine e_if (s1 := (153, [some (.inr (.inr (some (12, 0)))), some (.inl a1), some (.inl a2), some (.inl a3), some (.inl v6), some (.inl v7)], [], m1)) (s2 := (92, [some (.inr (.inr (some (12, 0)))), some (.inl a1), some (.inl a2), some (.inl a3), some (.inl v6), some (.inl v7)], [], m1)) rfl hres (fun hc hres => ?_) (fun hc hres => ?_)
              · obtain rfl := Option.some.inj hres
                exact e_mask (L' := [none, none, none, none, none, none]) rfl (hxl5 _ rfl)
              · refine e_steps 5 (s' := (100, [some (.inr (.inr (some (12, 0)))), some (.inl a1), some (.inl a2), some (.inl a3), some (.inl v6), some (.inl v7)], [.inl (v7 + 1), .inr (.inr (some (131, 0)))], m1)) rfl ?_
                refine e_gd (s1 := (101, [some (.inr (.inr (some (12, 0)))), some (.inl a1), some (.inl a2), some (.inl a3), some (.inl v6), some (.inl v7)], [.inl (m1 131 0 (v7 + 1).toNatClampNeg)], m1)) rfl hres (fun hc hres => ?_)
                refine e_if (s1 := (153, [some (.inr (.inr (some (12, 0)))), some (.inl a1), some (.inl a2), some (.inl a3), some (.inl v6), some (.inl v7)], [], m1)) (s2 := (104, [some (.inr (.inr (some (12, 0)))), some (.inl a1), some (.inl a2), some (.inl a3), some (.inl v6), some (.inl v7)], [], m1)) rfl hres (fun hc hres => ?_) (fun hc hres => ?_)
                · obtain rfl := Option.some.inj hres
                  exact e_mask (L' := [none, none, none, none, none, none]) rfl (hxl5 _ rfl)
                · refine e_steps 5 (s' := (112, [some (.inr (.inr (some (12, 0)))), some (.inl a1), some (.inl a2), some (.inl a3), some (.inl v6), some (.inl v7)], [.inl (v7 + 2), .inr (.inr (some (131, 0)))], m1)) rfl ?_
                  refine e_gd (s1 := (113, [some (.inr (.inr (some (12, 0)))), some (.inl a1), some (.inl a2), some (.inl a3), some (.inl v6), some (.inl v7)], [.inl (m1 131 0 (v7 + 2).toNatClampNeg)], m1)) rfl hres (fun hc hres => ?_)
                  refine e_if (s1 := (153, [some (.inr (.inr (some (12, 0)))), some (.inl a1), some (.inl a2), some (.inl a3), some (.inl v6), some (.inl v7)], [], m1)) (s2 := (116, [some (.inr (.inr (some (12, 0)))), some (.inl a1), some (.inl a2), some (.inl a3), some (.inl v6), some (.inl v7)], [], m1)) rfl hres (fun hc hres => ?_) (fun hc hres => ?_)
                  · obtain rfl := Option.some.inj hres
                    exact e_mask (L' := [none, none, none, none, none, none]) rfl (hxl5 _ rfl)
                  · refine e_steps 5 (s' := (124, [some (.inr (.inr (some (12, 0)))), some (.inl a1), some (.inl a2), some (.inl a3), some (.inl v6), some (.inl v7)], [.inl (v7 + 2), .inr (.inr (some (131, 0)))], m1)) rfl ?_
                    refine e_gd (s1 := (125, [some (.inr (.inr (some (12, 0)))), some (.inl a1), some (.inl a2), some (.inl a3), some (.inl v6), some (.inl v7)], [.inl (m1 131 0 (v7 + 2).toNatClampNeg)], m1)) rfl hres (fun hc hres => ?_)
                    refine e_steps 1 (s' := (126, [some (.inr (.inr (some (12, 0)))), some (.inl a1), some (.inl a2), some (.inl a3), some (.inl v6), some (.inl v7)], [.inl 4, .inl (m1 131 0 (v7 + 2).toNatClampNeg)], m1)) rfl ?_
                    refine e_if (s1 := (153, [some (.inr (.inr (some (12, 0)))), some (.inl a1), some (.inl a2), some (.inl a3), some (.inl v6), some (.inl v7)], [], m1)) (s2 := (129, [some (.inr (.inr (some (12, 0)))), some (.inl a1), some (.inl a2), some (.inl a3), some (.inl v6), some (.inl v7)], [], m1)) rfl hres (fun hc hres => ?_) (fun hc hres => ?_)
                    · obtain rfl := Option.some.inj hres
                      exact e_mask (L' := [none, none, none, none, none, none]) rfl (hxl5 _ rfl)
                    · refine e_steps 1 (s' := (131, [some (.inr (.inr (some (12, 0)))), some (.inl a1), some (.inl a2), some (.inl a3), some (.inl v6), some (.inl v7)], [.inl v6], m1)) rfl ?_
                      refine e_if (s1 := (155, [some (.inr (.inr (some (12, 0)))), some (.inl a1), some (.inl a2), some (.inl a3), some (.inl v6), some (.inl v7)], [], m1)) (s2 := (134, [some (.inr (.inr (some (12, 0)))), some (.inl a1), some (.inl a2), some (.inl a3), some (.inl v6), some (.inl v7)], [], m1)) rfl hres (fun hc hres => ?_) (fun hc hres => ?_)
                      · refine e_mask (L' := [some (.inr (.inr (some (12, 0)))), some (.inl a1), some (.inl a2), some (.inl a3), some (.inl v6), none]) rfl ?_
                        refine e_steps 1 (s' := (158, [some (.inr (.inr (some (12, 0)))), some (.inl a1), some (.inl a2), some (.inl a3), some (.inl (v6 + 1)), none], [], m1)) rfl ?_
                        refine e_let (fun (v8 : Int32) => (158, [some (.inr (.inr (some (12, 0)))), some (.inl a1), some (.inl a2), some (.inl a3), some (.inl v8), none], [], m1)) hres (fun v8 hres => ?_)
                        refine e_steps 1 (s' := (63, [some (.inr (.inr (some (12, 0)))), some (.inl a1), some (.inl a2), some (.inl a3), some (.inl v8), none], [], m1)) rfl ?_
                        obtain rfl := Option.some.inj hres
                        exact e_mask (L' := [some (.inr (.inr (some (12, 0)))), some (.inl a1), some (.inl a2), some (.inl a3), some (.inl v8), none]) rfl (hcl5 _ rfl)
                      · refine e_steps 3 (s' := (140, [some (.inr (.inr (some (12, 0)))), some (.inl a1), some (.inl a2), some (.inl a3), some (.inl v6), some (.inl v7)], [.inl v7, .inr (.inr (some (131, 0)))], m1)) rfl ?_
                        refine e_gd (s1 := (141, [some (.inr (.inr (some (12, 0)))), some (.inl a1), some (.inl a2), some (.inl a3), some (.inl v6), some (.inl v7)], [.inl (m1 131 0 v7.toNatClampNeg)], m1)) rfl hres (fun hc hres => ?_)
                        refine e_steps 5 (s' := (149, [some (.inr (.inr (some (12, 0)))), some (.inl a1), some (.inl a2), some (.inl a3), some (.inl v6), some (.inl v7)], [.inl (v7 - 3), .inr (.inr (some (131, 0))), .inl (m1 131 0 v7.toNatClampNeg)], m1)) rfl ?_
                        refine e_gd (s1 := (150, [some (.inr (.inr (some (12, 0)))), some (.inl a1), some (.inl a2), some (.inl a3), some (.inl v6), some (.inl v7)], [.inl (m1 131 0 (v7 - 3).toNatClampNeg), .inl (m1 131 0 v7.toNatClampNeg)], m1)) rfl hres (fun hc hres => ?_)
                        refine e_if (s1 := (155, [some (.inr (.inr (some (12, 0)))), some (.inl a1), some (.inl a2), some (.inl a3), some (.inl v6), some (.inl v7)], [], m1)) (s2 := (153, [some (.inr (.inr (some (12, 0)))), some (.inl a1), some (.inl a2), some (.inl a3), some (.inl v6), some (.inl v7)], [], m1)) rfl hres (fun hc hres => ?_) (fun hc hres => ?_)
                        · refine e_mask (L' := [some (.inr (.inr (some (12, 0)))), some (.inl a1), some (.inl a2), some (.inl a3), some (.inl v6), none]) rfl ?_
                          refine e_steps 1 (s' := (158, [some (.inr (.inr (some (12, 0)))), some (.inl a1), some (.inl a2), some (.inl a3), some (.inl (v6 + 1)), none], [], m1)) rfl ?_
                          refine e_let (fun (v9 : Int32) => (158, [some (.inr (.inr (some (12, 0)))), some (.inl a1), some (.inl a2), some (.inl a3), some (.inl v9), none], [], m1)) hres (fun v9 hres => ?_)
                          refine e_steps 1 (s' := (63, [some (.inr (.inr (some (12, 0)))), some (.inl a1), some (.inl a2), some (.inl a3), some (.inl v9), none], [], m1)) rfl ?_
                          obtain rfl := Option.some.inj hres
                          exact e_mask (L' := [some (.inr (.inr (some (12, 0)))), some (.inl a1), some (.inl a2), some (.inl a3), some (.inl v9), none]) rfl (hcl5 _ rfl)
                        · obtain rfl := Option.some.inj hres
                          exact e_mask (L' := [none, none, none, none, none, none]) rfl (hxl5 _ rfl)
        · refine e_steps 1 (s' := (59, [some (.inr (.inr (some (12, 0)))), some (.inl a1), some (.inl a2), some (.inl a3), none, none], [.inl 3], m1)) rfl ?_
          obtain rfl := Option.some.inj hres
          exact e_ret rfl rfl
      · refine e_steps 1 (s' := (45, [some (.inr (.inr (some (12, 0)))), some (.inl a1), some (.inl a2), some (.inl a3), none, none], [.inl 1], m1)) rfl ?_
        obtain rfl := Option.some.inj hres
        exact e_ret rfl rfl
    · refine e_steps 2 (s' := (31, [some (.inr (.inr (some (12, 0)))), some (.inl a1), some (.inl a2), some (.inl a3), none, none], [.inl 2, .inr (.inr (some (12, 0)))], m1)) rfl ?_
      obtain ⟨r21, m22, hv, hres⟩ := mm_b2_some hres
      refine e_call0 (pc := 34) (L := [some (.inr (.inr (some (12, 0)))), some (.inl a1), some (.inl a2), some (.inl a3), none, none]) (st := []) (m' := m22) (v := some (.inl r21)) rfl (k_X12_fail d (by omega) 2 _ _ hv) ?_
      show mm_E (d + 1) 254 (34, [some (.inr (.inr (some (12, 0)))), some (.inl a1), some (.inl a2), some (.inl a3), none, none], [.inl r21], m22) (.inl (some (.inl r.1)), r.2, 0, 0)
      obtain rfl := Option.some.inj hres
      exact e_ret rfl rfl
  · refine e_steps 2 (s' := (15, [some (.inr (.inr (some (12, 0)))), some (.inl a1), some (.inl a2), some (.inl a3), none, none], [.inl 1, .inr (.inr (some (12, 0)))], m1)) rfl ?_
    obtain ⟨r23, m24, hv, hres⟩ := mm_b2_some hres
    refine e_call0 (pc := 18) (L := [some (.inr (.inr (some (12, 0)))), some (.inl a1), some (.inl a2), some (.inl a3), none, none]) (st := []) (m' := m24) (v := some (.inl r23)) rfl (k_X12_fail d (by omega) 1 _ _ hv) ?_
    show mm_E (d + 1) 254 (18, [some (.inr (.inr (some (12, 0)))), some (.inl a1), some (.inl a2), some (.inl a3), none, none], [.inl r23], m24) (.inl (some (.inl r.1)), r.2, 0, 0)
    obtain rfl := Option.some.inj hres
    exact e_ret rfl rfl
/-- GlassThreadsModel.count(I)I -/
def f_X12_count (a1 : Int32) (m : mm_M) : Option (Int32 × mm_M) :=
mm_let (mm_w m 12 0 3 0) fun m1 =>
if a1 = 0 then (some ((m1 12 0 5), m1))
else if a1 = 1 then (some ((m1 12 0 4), m1))
else if a1 = 2 then (some ((m1 12 0 6), m1))
else if a1 = 3 then (some ((m1 12 0 77), m1))
else if a1 = 4 then (some ((m1 12 0 78), m1))
else if a1 = 5 then (some ((m1 12 0 99), m1))
else if a1 = 6 then (some ((m1 12 0 62), m1))
else if a1 = 7 then (some ((m1 12 0 21), m1))
else (mm_b2 (f_X12_fail 1 m1) fun r2 m3 =>
some (r2, m3))
set_option maxHeartbeats 4000000 in
set_option maxRecDepth 100000 in
theorem k_X12_count (d : Nat) (hd : 1 ≤ d) (a1 : Int32) (m : mm_M) (r : Int32 × mm_M) (hres : f_X12_count a1 m = some r) : mm_X d 255 [.inr (.inr (some (12, 0))), .inl a1] m (.inl (some (.inl r.1)), r.2, 0, 0) := by
  unfold f_X12_count at hres
  obtain ⟨d, rfl⟩ : ∃ e, d = e + 1 := ⟨d - 1, by omega⟩
  show mm_E (d + 1) 255 (0, [some (.inr (.inr (some (12, 0)))), some (.inl a1)], [], m) (.inl (some (.inl r.1)), r.2, 0, 0)
  refine e_steps 3 (s' := (5, [some (.inr (.inr (some (12, 0)))), some (.inl a1)], [], (mm_w m 12 0 3 0))) rfl ?_
  refine e_let (fun (m1 : mm_M) => (5, [some (.inr (.inr (some (12, 0)))), some (.inl a1)], [], m1)) hres (fun m1 hres => ?_)
  refine e_steps 1 (s' := (6, [some (.inr (.inr (some (12, 0)))), some (.inl a1)], [.inl a1], m1)) rfl ?_
  refine e_sw (c := a1 = 0) (s1 := (52, [some (.inr (.inr (some (12, 0)))), some (.inl a1)], [], m1)) rfl hres (fun hc hres => ?_) (fun hc hres hst => ?_)
  · refine e_steps 2 (s' := (56, [some (.inr (.inr (some (12, 0)))), some (.inl a1)], [.inl (m1 12 0 5)], m1)) rfl ?_
    obtain rfl := Option.some.inj hres
    exact e_ret rfl rfl
  · refine e_sw (c := a1 = 1) (s1 := (57, [some (.inr (.inr (some (12, 0)))), some (.inl a1)], [], m1)) hst hres (fun hc hres => ?_) (fun hc hres hst => ?_)
    · refine e_steps 2 (s' := (61, [some (.inr (.inr (some (12, 0)))), some (.inl a1)], [.inl (m1 12 0 4)], m1)) rfl ?_
      obtain rfl := Option.some.inj hres
      exact e_ret rfl rfl
    · refine e_sw (c := a1 = 2) (s1 := (62, [some (.inr (.inr (some (12, 0)))), some (.inl a1)], [], m1)) hst hres (fun hc hres => ?_) (fun hc hres hst => ?_)
      · refine e_steps 2 (s' := (66, [some (.inr (.inr (some (12, 0)))), some (.inl a1)], [.inl (m1 12 0 6)], m1)) rfl ?_
        obtain rfl := Option.some.inj hres
        exact e_ret rfl rfl
      · refine e_sw (c := a1 = 3) (s1 := (67, [some (.inr (.inr (some (12, 0)))), some (.inl a1)], [], m1)) hst hres (fun hc hres => ?_) (fun hc hres hst => ?_)
        · refine e_steps 2 (s' := (71, [some (.inr (.inr (some (12, 0)))), some (.inl a1)], [.inl (m1 12 0 77)], m1)) rfl ?_
          obtain rfl := Option.some.inj hres
          exact e_ret rfl rfl
        · refine e_sw (c := a1 = 4) (s1 := (72, [some (.inr (.inr (some (12, 0)))), some (.inl a1)], [], m1)) hst hres (fun hc hres => ?_) (fun hc hres hst => ?_)
          · refine e_steps 2 (s' := (76, [some (.inr (.inr (some (12, 0)))), some (.inl a1)], [.inl (m1 12 0 78)], m1)) rfl ?_
            obtain rfl := Option.some.inj hres
            exact e_ret rfl rfl
          · refine e_sw (c := a1 = 5) (s1 := (77, [some (.inr (.inr (some (12, 0)))), some (.inl a1)], [], m1)) hst hres (fun hc hres => ?_) (fun hc hres hst => ?_)
            · refine e_steps 2 (s' := (81, [some (.inr (.inr (some (12, 0)))), some (.inl a1)], [.inl (m1 12 0 99)], m1)) rfl ?_
              obtain rfl := Option.some.inj hres
              exact e_ret rfl rfl
            · refine e_sw (c := a1 = 6) (s1 := (82, [some (.inr (.inr (some (12, 0)))), some (.inl a1)], [], m1)) hst hres (fun hc hres => ?_) (fun hc hres hst => ?_)
              · refine e_steps 2 (s' := (86, [some (.inr (.inr (some (12, 0)))), some (.inl a1)], [.inl (m1 12 0 62)], m1)) rfl ?_
                obtain rfl := Option.some.inj hres
                exact e_ret rfl rfl
              · refine e_sw (c := a1 = 7) (s1 := (87, [some (.inr (.inr (some (12, 0)))), some (.inl a1)], [], m1)) hst hres (fun hc hres => ?_) (fun hc hres hst => ?_)
                · refine e_steps 2 (s' := (91, [some (.inr (.inr (some (12, 0)))), some (.inl a1)], [.inl (m1 12 0 21)], m1)) rfl ?_
                  obtain rfl := Option.some.inj hres
                  exact e_ret rfl rfl
                · refine e_step (s' := (92, [some (.inr (.inr (some (12, 0)))), some (.inl a1)], [], m1)) hst ?_
                  refine e_steps 2 (s' := (94, [some (.inr (.inr (some (12, 0)))), some (.inl a1)], [.inl 1, .inr (.inr (some (12, 0)))], m1)) rfl ?_
                  obtain ⟨r2, m3, hv, hres⟩ := mm_b2_some hres
                  refine e_call0 (pc := 97) (L := [some (.inr (.inr (some (12, 0)))), some (.inl a1)]) (st := []) (m' := m3) (v := some (.inl r2)) rfl (k_X12_fail d (by omega) 1 _ _ hv) ?_
                  show mm_E (d + 1) 255 (97, [some (.inr (.inr (some (12, 0)))), some (.inl a1)], [.inl r2], m3) (.inl (some (.inl r.1)), r.2, 0, 0)
                  obtain rfl := Option.some.inj hres
                  exact e_ret rfl rfl
