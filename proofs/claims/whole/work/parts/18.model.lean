/-- GlassThreadsModel.isThread(I)Z -/
def f_X12_isThread (a1 : Int32) (m : mm_M) : Option (Int32) :=
mm_b1 (f_X12_isIn a1 0 ((m 12 0 4) - 1) m) fun r1 =>
if r1 = 0 ∨ r1 = 1 then some r1 else none
set_option maxHeartbeats 4000000 in
set_option maxRecDepth 100000 in
theorem k_X12_isThread (d : Nat) (hd : 1 ≤ d) (a1 : Int32) (m : mm_M) (r : Int32) (hres : f_X12_isThread a1 m = some r) : mm_X d 187 [.inr (.inr (some (12, 0))), .inl a1] m (.inl (some (.inl r)), m, 0, 0) := by
  unfold f_X12_isThread at hres
  obtain ⟨d, rfl⟩ : ∃ e, d = e + 1 := ⟨d - 1, by omega⟩
  show mm_E (d + 1) 187 (0, [some (.inr (.inr (some (12, 0)))), some (.inl a1)], [], m) (.inl (some (.inl r)), m, 0, 0)
  refine e_steps 6 (s' := (8, [some (.inr (.inr (some (12, 0)))), some (.inl a1)], [.inl ((m 12 0 4) - 1), .inl 0, .inl a1], m)) rfl ?_
  obtain ⟨r1, hv, hres⟩ := mm_b1_some hres
  refine e_call0 (pc := 11) (L := [some (.inr (.inr (some (12, 0)))), some (.inl a1)]) (st := []) (m' := m) (v := some (.inl r1)) rfl (k_X12_isIn d (by omega) a1 0 ((m 12 0 4) - 1) _ _ hv) ?_
  show mm_E (d + 1) 187 (11, [some (.inr (.inr (some (12, 0)))), some (.inl a1)], [.inl r1], m) (.inl (some (.inl r)), m, 0, 0)
  refine e_gr (o := .inl (some (.inl r1))) rfl hres (fun hc hres => ?_)
  obtain rfl := Option.some.inj hres
  rfl
/-- GlassThreadsModel.isPart(II)Z -/
def f_X12_isPart (a1 : Int32) (a2 : Int32) (m : mm_M) : Option (Int32) :=
mm_b1 (f_X12_isThread a1 m) fun r1 =>
if r1 = 0 then (some 0)
else (if mm_in a1 9 then (
mm_b1 (f_X12_isIn a2 0 ((m 67 0 a1.toNatClampNeg) - 1) m) fun r2 =>
if r2 = 0 then (some 0)
else (some 1)) else none)
set_option maxHeartbeats 4000000 in
set_option maxRecDepth 100000 in
theorem k_X12_isPart (d : Nat) (hd : 2 ≤ d) (a1 : Int32) (a2 : Int32) (m : mm_M) (r : Int32) (hres : f_X12_isPart a1 a2 m = some r) : mm_X d 188 [.inr (.inr (some (12, 0))), .inl a1, .inl a2] m (.inl (some (.inl r)), m, 0, 0) := by
  unfold f_X12_isPart at hres
  obtain ⟨d, rfl⟩ : ∃ e, d = e + 1 := ⟨d - 1, by omega⟩
  show mm_E (d + 1) 188 (0, [some (.inr (.inr (some (12, 0)))), some (.inl a1), some (.inl a2)], [], m) (.inl (some (.inl r)), m, 0, 0)
  refine e_steps 2 (s' := (2, [some (.inr (.inr (some (12, 0)))), some (.inl a1), some (.inl a2)], [.inl a1, .inr (.inr (some (12, 0)))], m)) rfl ?_
  obtain ⟨r1, hv, hres⟩ := mm_b1_some hres
  refine e_call0 (pc := 5) (L := [some (.inr (.inr (some (12, 0)))), some (.inl a1), some (.inl a2)]) (st := []) (m' := m) (v := some (.inl r1)) rfl (k_X12_isThread d (by omega) a1 _ _ hv) ?_
  show mm_E (d + 1) 188 (5, [some (.inr (.inr (some (12, 0)))), some (.inl a1), some (.inl a2)], [.inl r1], m) (.inl (some (.inl r)), m, 0, 0)
  refine e_if (s1 := (28, [some (.inr (.inr (some (12, 0)))), some (.inl a1), some (.inl a2)], [], m)) (s2 := (8, [some (.inr (.inr (some (12, 0)))), some (.inl a1), some (.inl a2)], [], m)) rfl hres (fun hc hres => ?_) (fun hc hres => ?_)
  · refine e_mask (L' := [none, none, none]) rfl ?_
    refine e_steps 1 (s' := (29, [none, none, none], [.inl 0], m)) rfl ?_
    obtain rfl := Option.some.inj hres
    exact e_ret rfl rfl
  · refine e_steps 5 (s' := (15, [some (.inr (.inr (some (12, 0)))), some (.inl a1), some (.inl a2)], [.inl a1, .inr (.inr (some (67, 0))), .inl 0, .inl a2], m)) rfl ?_
    refine e_gd (s1 := (16, [some (.inr (.inr (some (12, 0)))), some (.inl a1), some (.inl a2)], [.inl (m 67 0 a1.toNatClampNeg), .inl 0, .inl a2], m)) rfl hres (fun hc hres => ?_)
    refine e_steps 2 (s' := (18, [some (.inr (.inr (some (12, 0)))), some (.inl a1), some (.inl a2)], [.inl ((m 67 0 a1.toNatClampNeg) - 1), .inl 0, .inl a2], m)) rfl ?_
    obtain ⟨r2, hv, hres⟩ := mm_b1_some hres
    refine e_call0 (pc := 21) (L := [some (.inr (.inr (some (12, 0)))), some (.inl a1), some (.inl a2)]) (st := []) (m' := m) (v := some (.inl r2)) rfl (k_X12_isIn d (by omega) a2 0 ((m 67 0 a1.toNatClampNeg) - 1) _ _ hv) ?_
    show mm_E (d + 1) 188 (21, [some (.inr (.inr (some (12, 0)))), some (.inl a1), some (.inl a2)], [.inl r2], m) (.inl (some (.inl r)), m, 0, 0)
    refine e_if (s1 := (28, [some (.inr (.inr (some (12, 0)))), some (.inl a1), some (.inl a2)], [], m)) (s2 := (24, [some (.inr (.inr (some (12, 0)))), some (.inl a1), some (.inl a2)], [], m)) rfl hres (fun hc hres => ?_) (fun hc hres => ?_)
    · refine e_mask (L' := [none, none, none]) rfl ?_
      refine e_steps 1 (s' := (29, [none, none, none], [.inl 0], m)) rfl ?_
      obtain rfl := Option.some.inj hres
      exact e_ret rfl rfl
    · refine e_steps 2 (s' := (29, [some (.inr (.inr (some (12, 0)))), some (.inl a1), some (.inl a2)], [.inl 1], m)) rfl ?_
      refine e_mask (L' := [none, none, none]) rfl ?_
      obtain rfl := Option.some.inj hres
      exact e_ret rfl rfl
/-- GlassThreadsModel.isColour(I)Z -/
def f_X12_isColour (a0 : Int32) (m : mm_M) : Option (Int32) :=
mm_b1 (f_X12_isIn a0 0 7 m) fun r1 =>
if r1 = 0 ∨ r1 = 1 then some r1 else none
set_option maxHeartbeats 4000000 in
set_option maxRecDepth 100000 in
theorem k_X12_isColour (d : Nat) (hd : 1 ≤ d) (a0 : Int32) (m : mm_M) (r : Int32) (hres : f_X12_isColour a0 m = some r) : mm_X d 189 [.inl a0] m (.inl (some (.inl r)), m, 0, 0) := by
  unfold f_X12_isColour at hres
  obtain ⟨d, rfl⟩ : ∃ e, d = e + 1 := ⟨d - 1, by omega⟩
  show mm_E (d + 1) 189 (0, [some (.inl a0)], [], m) (.inl (some (.inl r)), m, 0, 0)
  refine e_steps 3 (s' := (4, [some (.inl a0)], [.inl 7, .inl 0, .inl a0], m)) rfl ?_
  obtain ⟨r1, hv, hres⟩ := mm_b1_some hres
  refine e_call0 (pc := 7) (L := [some (.inl a0)]) (st := []) (m' := m) (v := some (.inl r1)) rfl (k_X12_isIn d (by omega) a0 0 7 _ _ hv) ?_
  show mm_E (d + 1) 189 (7, [some (.inl a0)], [.inl r1], m) (.inl (some (.inl r)), m, 0, 0)
  refine e_gr (o := .inl (some (.inl r1))) rfl hres (fun hc hres => ?_)
  obtain rfl := Option.some.inj hres
  rfl
/-- GlassThreadsModel.part(III)I -/
def f_X12_part (a1 : Int32) (a2 : Int32) (a3 : Int32) (m : mm_M) : Option (Int32 × mm_M) :=
mm_let (mm_w m 12 0 3 0) fun m1 =>
mm_b1 (f_X12_isThread a1 m1) fun r2 =>
if r2 = 0 then (mm_b2 (f_X12_fail 1 m1) fun r3 m4 =>
some (r3, m4))
else (mm_let ((if a2 ≠ (-1) then (mm_let ((24 * a1) + a2) fun v6 =>
if a3 ≠ 0 then (if a3 ≠ 1 then (if mm_in v6 216 then (
some ((m1 71 0 v6.toNatClampNeg), m1)) else none)
else (if mm_in v6 216 then (
some ((m1 70 0 v6.toNatClampNeg), m1)) else none))
else (if mm_in v6 216 then (
some ((m1 69 0 v6.toNatClampNeg), m1)) else none))
else (if mm_in a1 9 then (
some ((m1 67 0 a1.toNatClampNeg), m1)) else none) : Option (Int32 × mm_M))) fun k5 =>
if a2 ≠ (-1) then (mm_b1 (f_X12_isPart a1 a2 m1) fun r7 =>
if r7 = 0 then (mm_b2 (f_X12_fail 1 m1) fun r8 m9 =>
some (r8, m9))
else (mm_b1 (f_X12_isIn a3 0 2 m1) fun r10 =>
if r10 ≠ 0 then (k5)
else (mm_b2 (f_X12_fail 1 m1) fun r11 m12 =>
some (r11, m12))))
else (if a3 = 0 then (k5)
else (mm_b2 (f_X12_fail 1 m1) fun r13 m14 =>
some (r13, m14))))
set_option maxHeartbeats 4000000 in
set_option maxRecDepth 100000 in
theorem k_X12_part (d : Nat) (hd : 3 ≤ d) (a1 : Int32) (a2 : Int32) (a3 : Int32) (m : mm_M) (r : Int32 × mm_M) (hres : f_X12_part a1 a2 a3 m = some r) : mm_X d 190 [.inr (.inr (some (12, 0))), .inl a1, .inl a2, .inl a3] m (.inl (some (.inl r.1)), r.2, 0, 0) := by
  unfold f_X12_part at hres
  obtain ⟨d, rfl⟩ : ∃ e, d = e + 1 := ⟨d - 1, by omega⟩
  show mm_E (d + 1) 190 (0, [some (.inr (.inr (some (12, 0)))), some (.inl a1), some (.inl a2), some (.inl a3), none], [], m) (.inl (some (.inl r.1)), r.2, 0, 0)
  refine e_steps 3 (s' := (5, [some (.inr (.inr (some (12, 0)))), some (.inl a1), some (.inl a2), some (.inl a3), none], [], (mm_w m 12 0 3 0))) rfl ?_
  refine e_let (fun (m1 : mm_M) => (5, [some (.inr (.inr (some (12, 0)))), some (.inl a1), some (.inl a2), some (.inl a3), none], [], m1)) hres (fun m1 hres => ?_)
  refine e_steps 2 (s' := (7, [some (.inr (.inr (some (12, 0)))), some (.inl a1), some (.inl a2), some (.inl a3), none], [.inl a1, .inr (.inr (some (12, 0)))], m1)) rfl ?_
  obtain ⟨r2, hv, hres⟩ := mm_b1_some hres
  refine e_call0 (pc := 10) (L := [some (.inr (.inr (some (12, 0)))), some (.inl a1), some (.inl a2), some (.inl a3), none]) (st := []) (m' := m1) (v := some (.inl r2)) rfl (k_X12_isThread d (by omega) a1 _ _ hv) ?_
  show mm_E (d + 1) 190 (10, [some (.inr (.inr (some (12, 0)))), some (.inl a1), some (.inl a2), some (.inl a3), none], [.inl r2], m1) (.inl (some (.inl r.1)), r.2, 0, 0)
  refine e_if (s1 := (43, [some (.inr (.inr (some (12, 0)))), some (.inl a1), some (.inl a2), some (.inl a3), none], [], m1)) (s2 := (13, [some (.inr (.inr (some (12, 0)))), some (.inl a1), some (.inl a2), some (.inl a3), none], [], m1)) rfl hres (fun hc hres => ?_) (fun hc hres => ?_)
  · refine e_mask (L' := [some (.inr (.inr (some (12, 0)))), none, none, none, none]) rfl ?_
    refine e_steps 2 (s' := (45, [some (.inr (.inr (some (12, 0)))), none, none, none, none], [.inl 1, .inr (.inr (some (12, 0)))], m1)) rfl ?_
    obtain ⟨r3, m4, hv, hres⟩ := mm_b2_some hres
    refine e_call0 (pc := 48) (L := [some (.inr (.inr (some (12, 0)))), none, none, none, none]) (st := []) (m' := m4) (v := some (.inl r3)) rfl (k_X12_fail d (by omega) 1 _ _ hv) ?_
    show mm_E (d + 1) 190 (48, [some (.inr (.inr (some (12, 0)))), none, none, none, none], [.inl r3], m4) (.inl (some (.inl r.1)), r.2, 0, 0)
    obtain rfl := Option.some.inj hres
    exact e_ret rfl rfl
  · refine e_steps 2 (s' := (15, [some (.inr (.inr (some (12, 0)))), some (.inl a1), some (.inl a2), some (.inl a3), none], [.inl (-1), .inl a2], m1)) rfl ?_
    refine e_join (fun k5 => k5 = some r → mm_E (d + 1) 190 (49, [some (.inr (.inr (some (12, 0)))), some (.inl a1), some (.inl a2), some (.inl a3), none], [], m1) (.inl (some (.inl r.1)), r.2, 0, 0)) hres (fun  hres => ?_) (fun k5 hk5 hres => ?_)
    · refine e_steps 2 (s' := (51, [some (.inr (.inr (some (12, 0)))), some (.inl a1), some (.inl a2), some (.inl a3), none], [.inl (-1), .inl a2], m1)) rfl ?_
      refine e_if (s1 := (61, [some (.inr (.inr (some (12, 0)))), some (.inl a1), some (.inl a2), some (.inl a3), none], [], m1)) (s2 := (54, [some (.inr (.inr (some (12, 0)))), some (.inl a1), some (.inl a2), some (.inl a3), none], [], m1)) rfl hres (fun hc hres => ?_) (fun hc hres => ?_)
      · refine e_steps 6 (s' := (69, [some (.inr (.inr (some (12, 0)))), some (.inl a1), some (.inl a2), some (.inl a3), some (.inl ((24 * a1) + a2))], [], m1)) rfl ?_
        refine e_let (fun (v6 : Int32) => (69, [some (.inr (.inr (some (12, 0)))), some (.inl a1), some (.inl a2), some (.inl a3), some (.inl v6)], [], m1)) hres (fun v6 hres => ?_)
        refine e_steps 1 (s' := (70, [some (.inr (.inr (some (12, 0)))), some (.inl a1), some (.inl a2), some (.inl a3), some (.inl v6)], [.inl a3], m1)) rfl ?_
        refine e_if (s1 := (83, [some (.inr (.inr (some (12, 0)))), some (.inl a1), some (.inl a2), some (.inl a3), some (.inl v6)], [], m1)) (s2 := (73, [some (.inr (.inr (some (12, 0)))), some (.inl a1), some (.inl a2), some (.inl a3), some (.inl v6)], [], m1)) rfl hres (fun hc hres => ?_) (fun hc hres => ?_)
        · refine e_steps 2 (s' := (85, [some (.inr (.inr (some (12, 0)))), some (.inl a1), some (.inl a2), some (.inl a3), some (.inl v6)], [.inl 1, .inl a3], m1)) rfl ?_
          refine e_if (s1 := (98, [some (.inr (.inr (some (12, 0)))), some (.inl a1), some (.inl a2), some (.inl a3), some (.inl v6)], [], m1)) (s2 := (88, [some (.inr (.inr (some (12, 0)))), some (.inl a1), some (.inl a2), some (.inl a3), some (.inl v6)], [], m1)) rfl hres (fun hc hres => ?_) (fun hc hres => ?_)
          · refine e_steps 3 (s' := (104, [some (.inr (.inr (some (12, 0)))), some (.inl a1), some (.inl a2), some (.inl a3), some (.inl v6)], [.inl v6, .inr (.inr (some (71, 0)))], m1)) rfl ?_
            refine e_gd (s1 := (105, [some (.inr (.inr (some (12, 0)))), some (.inl a1), some (.inl a2), some (.inl a3), some (.inl v6)], [.inl (m1 71 0 v6.toNatClampNeg)], m1)) rfl hres (fun hc hres => ?_)
            refine e_mask (L' := [none, none, none, none, none]) rfl ?_
            obtain rfl := Option.some.inj hres
            exact e_ret rfl rfl
          · refine e_steps 3 (s' := (94, [some (.inr (.inr (some (12, 0)))), some (.inl a1), some (.inl a2), some (.inl a3), some (.inl v6)], [.inl v6, .inr (.inr (some (70, 0)))], m1)) rfl ?_
            refine e_gd (s1 := (95, [some (.inr (.inr (some (12, 0)))), some (.inl a1), some (.inl a2), some (.inl a3), some (.inl v6)], [.inl (m1 70 0 v6.toNatClampNeg)], m1)) rfl hres (fun hc hres => ?_)
            refine e_steps 1 (s' := (105, [some (.inr (.inr (some (12, 0)))), some (.inl a1), some (.inl a2), some (.inl a3), some (.inl v6)], [.inl (m1 70 0 v6.toNatClampNeg)], m1)) rfl ?_
            refine e_mask (L' := [none, none, none, none, none]) rfl ?_
            obtain rfl := Option.some.inj hres
            exact e_ret rfl rfl
        · refine e_steps 3 (s' := (79, [some (.inr (.inr (some (12, 0)))), some (.inl a1), some (.inl a2), some (.inl a3), some (.inl v6)], [.inl v6, .inr (.inr (some (69, 0)))], m1)) rfl ?_
          refine e_gd (s1 := (80, [some (.inr (.inr (some (12, 0)))), some (.inl a1), some (.inl a2), some (.inl a3), some (.inl v6)], [.inl (m1 69 0 v6.toNatClampNeg)], m1)) rfl hres (fun hc hres => ?_)
          refine e_steps 1 (s' := (105, [some (.inr (.inr (some (12, 0)))), some (.inl a1), some (.inl a2), some (.inl a3), some (.inl v6)], [.inl (m1 69 0 v6.toNatClampNeg)], m1)) rfl ?_
          refine e_mask (L' := [none, none, none, none, none]) rfl ?_
          obtain rfl := Option.some.inj hres
          exact e_ret rfl rfl
      · refine e_steps 3 (s' := (59, [some (.inr (.inr (some (12, 0)))), some (.inl a1), some (.inl a2), some (.inl a3), none], [.inl a1, .inr (.inr (some (67, 0)))], m1)) rfl ?_
        refine e_gd (s1 := (60, [some (.inr (.inr (some (12, 0)))), some (.inl a1), some (.inl a2), some (.inl a3), none], [.inl (m1 67 0 a1.toNatClampNeg)], m1)) rfl hres (fun hc hres => ?_)
        obtain rfl := Option.some.inj hres
        exact e_ret rfl rfl
    · refine e_if (s1 := (25, [some (.inr (.inr (some (12, 0)))), some (.inl a1), some (.inl a2), some (.inl a3), none], [], m1)) (s2 := (18, [some (.inr (.inr (some (12, 0)))), some (.inl a1), some (.inl a2), some (.inl a3), none], [], m1)) rfl hres (fun hc hres => ?_) (fun hc hres => ?_)
      · refine e_steps 3 (s' := (28, [some (.inr (.inr (some (12, 0)))), some (.inl a1), some (.inl a2), some (.inl a3), none], [.inl a2, .inl a1, .inr (.inr (some (12, 0)))], m1)) rfl ?_
        obtain ⟨r7, hv, hres⟩ := mm_b1_some hres
        refine e_call0 (pc := 31) (L := [some (.inr (.inr (some (12, 0)))), some (.inl a1), some (.inl a2), some (.inl a3), none]) (st := []) (m' := m1) (v := some (.inl r7)) rfl (k_X12_isPart d (by omega) a1 a2 _ _ hv) ?_
        show mm_E (d + 1) 190 (31, [some (.inr (.inr (some (12, 0)))), some (.inl a1), some (.inl a2), some (.inl a3), none], [.inl r7], m1) (.inl (some (.inl r.1)), r.2, 0, 0)
        refine e_if (s1 := (43, [some (.inr (.inr (some (12, 0)))), some (.inl a1), some (.inl a2), some (.inl a3), none], [], m1)) (s2 := (34, [some (.inr (.inr (some (12, 0)))), some (.inl a1), some (.inl a2), some (.inl a3), none], [], m1)) rfl hres (fun hc hres => ?_) (fun hc hres => ?_)
        · refine e_mask (L' := [some (.inr (.inr (some (12, 0)))), none, none, none, none]) rfl ?_
          refine e_steps 2 (s' := (45, [some (.inr (.inr (some (12, 0)))), none, none, none, none], [.inl 1, .inr (.inr (some (12, 0)))], m1)) rfl ?_
          obtain ⟨r8, m9, hv, hres⟩ := mm_b2_some hres
          refine e_call0 (pc := 48) (L := [some (.inr (.inr (some (12, 0)))), none, none, none, none]) (st := []) (m' := m9) (v := some (.inl r8)) rfl (k_X12_fail d (by omega) 1 _ _ hv) ?_
          show mm_E (d + 1) 190 (48, [some (.inr (.inr (some (12, 0)))), none, none, none, none], [.inl r8], m9) (.inl (some (.inl r.1)), r.2, 0, 0)
          obtain rfl := Option.some.inj hres
          exact e_ret rfl rfl
        · refine e_steps 3 (s' := (37, [some (.inr (.inr (some (12, 0)))), some (.inl a1), some (.inl a2), some (.inl a3), none], [.inl 2, .inl 0, .inl a3], m1)) rfl ?_
          obtain ⟨r10, hv, hres⟩ := mm_b1_some hres
          refine e_call0 (pc := 40) (L := [some (.inr (.inr (some (12, 0)))), some (.inl a1), some (.inl a2), some (.inl a3), none]) (st := []) (m' := m1) (v := some (.inl r10)) rfl (k_X12_isIn d (by omega) a3 0 2 _ _ hv) ?_
          show mm_E (d + 1) 190 (40, [some (.inr (.inr (some (12, 0)))), some (.inl a1), some (.inl a2), some (.inl a3), none], [.inl r10], m1) (.inl (some (.inl r.1)), r.2, 0, 0)
          refine e_if (s1 := (49, [some (.inr (.inr (some (12, 0)))), some (.inl a1), some (.inl a2), some (.inl a3), none], [], m1)) (s2 := (43, [some (.inr (.inr (some (12, 0)))), some (.inl a1), some (.inl a2), some (.inl a3), none], [], m1)) rfl hres (fun hc hres => ?_) (fun hc hres => ?_)
          · exact e_mask (L' := [some (.inr (.inr (some (12, 0)))), some (.inl a1), some (.inl a2), some (.inl a3), none]) rfl (hk5  hres)
          · refine e_mask (L' := [some (.inr (.inr (some (12, 0)))), none, none, none, none]) rfl ?_
            refine e_steps 2 (s' := (45, [some (.inr (.inr (some (12, 0)))), none, none, none, none], [.inl 1, .inr (.inr (some (12, 0)))], m1)) rfl ?_
            obtain ⟨r11, m12, hv, hres⟩ := mm_b2_some hres
            refine e_call0 (pc := 48) (L := [some (.inr (.inr (some (12, 0)))), none, none, none, none]) (st := []) (m' := m12) (v := some (.inl r11)) rfl (k_X12_fail d (by omega) 1 _ _ hv) ?_
            show mm_E (d + 1) 190 (48, [some (.inr (.inr (some (12, 0)))), none, none, none, none], [.inl r11], m12) (.inl (some (.inl r.1)), r.2, 0, 0)
            obtain rfl := Option.some.inj hres
            exact e_ret rfl rfl
      · refine e_steps 1 (s' := (19, [some (.inr (.inr (some (12, 0)))), some (.inl a1), some (.inl a2), some (.inl a3), none], [.inl a3], m1)) rfl ?_
        refine e_if (s1 := (49, [some (.inr (.inr (some (12, 0)))), some (.inl a1), some (.inl a2), some (.inl a3), none], [], m1)) (s2 := (22, [some (.inr (.inr (some (12, 0)))), some (.inl a1), some (.inl a2), some (.inl a3), none], [], m1)) rfl hres (fun hc hres => ?_) (fun hc hres => ?_)
        · exact e_mask (L' := [some (.inr (.inr (some (12, 0)))), some (.inl a1), some (.inl a2), some (.inl a3), none]) rfl (hk5  hres)
        · refine e_steps 1 (s' := (43, [some (.inr (.inr (some (12, 0)))), some (.inl a1), some (.inl a2), some (.inl a3), none], [], m1)) rfl ?_
          refine e_mask (L' := [some (.inr (.inr (some (12, 0)))), none, none, none, none]) rfl ?_
          refine e_steps 2 (s' := (45, [some (.inr (.inr (some (12, 0)))), none, none, none, none], [.inl 1, .inr (.inr (some (12, 0)))], m1)) rfl ?_
          obtain ⟨r13, m14, hv, hres⟩ := mm_b2_some hres
          refine e_call0 (pc := 48) (L := [some (.inr (.inr (some (12, 0)))), none, none, none, none]) (st := []) (m' := m14) (v := some (.inl r13)) rfl (k_X12_fail d (by omega) 1 _ _ hv) ?_
          show mm_E (d + 1) 190 (48, [some (.inr (.inr (some (12, 0)))), none, none, none, none], [.inl r13], m14) (.inl (some (.inl r.1)), r.2, 0, 0)
          obtain rfl := Option.some.inj hres
          exact e_ret rfl rfl
/-- GlassThreadsModel.loss(IIII)I -/
def f_X12_loss (a1 : Int32) (a2 : Int32) (a3 : Int32) (a4 : Int32) (m : mm_M) : Option (Int32 × mm_M) :=
mm_let (mm_w m 12 0 3 0) fun m1 =>
mm_b1 (f_X12_isPart a1 a2 m1) fun r2 =>
if r2 = 0 then (mm_b2 (f_X12_fail 1 m1) fun r3 m4 =>
some (r3, m4))
else (mm_b1 (f_X12_isColour a3 m1) fun r5 =>
if r5 ≠ 0 then (mm_b1 (f_X12_isIn a4 0 99 m1) fun r6 =>
if r6 ≠ 0 then (mm_b2 (f_X12_lossOf ((24 * a1) + a2) a3 a4 m1) fun r7 m8 =>
some (r7, m8))
else (mm_b2 (f_X12_fail 2 m1) fun r9 m10 =>
some (r9, m10)))
else (mm_b2 (f_X12_fail 1 m1) fun r11 m12 =>
some (r11, m12)))
set_option maxHeartbeats 4000000 in
set_option maxRecDepth 100000 in
theorem k_X12_loss (d : Nat) (hd : 3 ≤ d) (a1 : Int32) (a2 : Int32) (a3 : Int32) (a4 : Int32) (m : mm_M) (r : Int32 × mm_M) (hres : f_X12_loss a1 a2 a3 a4 m = some r) : mm_X d 191 [.inr (.inr (some (12, 0))), .inl a1, .inl a2, .inl a3, .inl a4] m (.inl (some (.inl r.1)), r.2, 0, 0) := by
  unfold f_X12_loss at hres
  obtain ⟨d, rfl⟩ : ∃ e, d = e + 1 := ⟨d - 1, by omega⟩
  show mm_E (d + 1) 191 (0, [some (.inr (.inr (some (12, 0)))), some (.inl a1), some (.inl a2), some (.inl a3), some (.inl a4)], [], m) (.inl (some (.inl r.1)), r.2, 0, 0)
  refine e_steps 3 (s' := (5, [some (.inr (.inr (some (12, 0)))), some (.inl a1), some (.inl a2), some (.inl a3), some (.inl a4)], [], (mm_w m 12 0 3 0))) rfl ?_
  refine e_let (fun (m1 : mm_M) => (5, [some (.inr (.inr (some (12, 0)))), some (.inl a1), some (.inl a2), some (.inl a3), some (.inl a4)], [], m1)) hres (fun m1 hres => ?_)
  refine e_steps 3 (s' := (8, [some (.inr (.inr (some (12, 0)))), some (.inl a1), some (.inl a2), some (.inl a3), some (.inl a4)], [.inl a2, .inl a1, .inr (.inr (some (12, 0)))], m1)) rfl ?_
  obtain ⟨r2, hv, hres⟩ := mm_b1_some hres
  refine e_call0 (pc := 11) (L := [some (.inr (.inr (some (12, 0)))), some (.inl a1), some (.inl a2), some (.inl a3), some (.inl a4)]) (st := []) (m' := m1) (v := some (.inl r2)) rfl (k_X12_isPart d (by omega) a1 a2 _ _ hv) ?_
  show mm_E (d + 1) 191 (11, [some (.inr (.inr (some (12, 0)))), some (.inl a1), some (.inl a2), some (.inl a3), some (.inl a4)], [.inl r2], m1) (.inl (some (.inl r.1)), r.2, 0, 0)
  refine e_if (s1 := (21, [some (.inr (.inr (some (12, 0)))), some (.inl a1), some (.inl a2), some (.inl a3), some (.inl a4)], [], m1)) (s2 := (14, [some (.inr (.inr (some (12, 0)))), some (.inl a1), some (.inl a2), some (.inl a3), some (.inl a4)], [], m1)) rfl hres (fun hc hres => ?_) (fun hc hres => ?_)
  · refine e_mask (L' := [some (.inr (.inr (some (12, 0)))), none, none, none, none]) rfl ?_
    refine e_steps 2 (s' := (23, [some (.inr (.inr (some (12, 0)))), none, none, none, none], [.inl 1, .inr (.inr (some (12, 0)))], m1)) rfl ?_
    obtain ⟨r3, m4, hv, hres⟩ := mm_b2_some hres
    refine e_call0 (pc := 26) (L := [some (.inr (.inr (some (12, 0)))), none, none, none, none]) (st := []) (m' := m4) (v := some (.inl r3)) rfl (k_X12_fail d (by omega) 1 _ _ hv) ?_
    show mm_E (d + 1) 191 (26, [some (.inr (.inr (some (12, 0)))), none, none, none, none], [.inl r3], m4) (.inl (some (.inl r.1)), r.2, 0, 0)
    obtain rfl := Option.some.inj hres
    exact e_ret rfl rfl
  · refine e_steps 1 (s' := (15, [some (.inr (.inr (some (12, 0)))), some (.inl a1), some (.inl a2), some (.inl a3), some (.inl a4)], [.inl a3], m1)) rfl ?_
    obtain ⟨r5, hv, hres⟩ := mm_b1_some hres
    refine e_call0 (pc := 18) (L := [some (.inr (.inr (some (12, 0)))), some (.inl a1), some (.inl a2), some (.inl a3), some (.inl a4)]) (st := []) (m' := m1) (v := some (.inl r5)) rfl (k_X12_isColour d (by omega) a3 _ _ hv) ?_
    show mm_E (d + 1) 191 (18, [some (.inr (.inr (some (12, 0)))), some (.inl a1), some (.inl a2), some (.inl a3), some (.inl a4)], [.inl r5], m1) (.inl (some (.inl r.1)), r.2, 0, 0)
    refine e_if (s1 := (27, [some (.inr (.inr (some (12, 0)))), some (.inl a1), some (.inl a2), some (.inl a3), some (.inl a4)], [], m1)) (s2 := (21, [some (.inr (.inr (some (12, 0)))), some (.inl a1), some (.inl a2), some (.inl a3), some (.inl a4)], [], m1)) rfl hres (fun hc hres => ?_) (fun hc hres => ?_)
    · refine e_steps 3 (s' := (32, [some (.inr (.inr (some (12, 0)))), some (.inl a1), some (.inl a2), some (.inl a3), some (.inl a4)], [.inl 99, .inl 0, .inl a4], m1)) rfl ?_
      obtain ⟨r6, hv, hres⟩ := mm_b1_some hres
      refine e_call0 (pc := 35) (L := [some (.inr (.inr (some (12, 0)))), some (.inl a1), some (.inl a2), some (.inl a3), some (.inl a4)]) (st := []) (m' := m1) (v := some (.inl r6)) rfl (k_X12_isIn d (by omega) a4 0 99 _ _ hv) ?_
      show mm_E (d + 1) 191 (35, [some (.inr (.inr (some (12, 0)))), some (.inl a1), some (.inl a2), some (.inl a3), some (.inl a4)], [.inl r6], m1) (.inl (some (.inl r.1)), r.2, 0, 0)
      refine e_if (s1 := (44, [some (.inr (.inr (some (12, 0)))), some (.inl a1), some (.inl a2), some (.inl a3), some (.inl a4)], [], m1)) (s2 := (38, [some (.inr (.inr (some (12, 0)))), some (.inl a1), some (.inl a2), some (.inl a3), some (.inl a4)], [], m1)) rfl hres (fun hc hres => ?_) (fun hc hres => ?_)
      · refine e_steps 8 (s' := (54, [some (.inr (.inr (some (12, 0)))), some (.inl a1), some (.inl a2), some (.inl a3), some (.inl a4)], [.inl a4, .inl a3, .inl ((24 * a1) + a2), .inr (.inr (some (12, 0)))], m1)) rfl ?_
        obtain ⟨r7, m8, hv, hres⟩ := mm_b2_some hres
        refine e_call0 (pc := 57) (L := [some (.inr (.inr (some (12, 0)))), some (.inl a1), some (.inl a2), some (.inl a3), some (.inl a4)]) (st := []) (m' := m8) (v := some (.inl r7)) rfl (k_X12_lossOf d (by omega) ((24 * a1) + a2) a3 a4 _ _ hv) ?_
        show mm_E (d + 1) 191 (57, [some (.inr (.inr (some (12, 0)))), some (.inl a1), some (.inl a2), some (.inl a3), some (.inl a4)], [.inl r7], m8) (.inl (some (.inl r.1)), r.2, 0, 0)
        obtain rfl := Option.some.inj hres
        exact e_ret rfl rfl
      · refine e_steps 2 (s' := (40, [some (.inr (.inr (some (12, 0)))), some (.inl a1), some (.inl a2), some (.inl a3), some (.inl a4)], [.inl 2, .inr (.inr (some (12, 0)))], m1)) rfl ?_
        obtain ⟨r9, m10, hv, hres⟩ := mm_b2_some hres
        refine e_call0 (pc := 43) (L := [some (.inr (.inr (some (12, 0)))), some (.inl a1), some (.inl a2), some (.inl a3), some (.inl a4)]) (st := []) (m' := m10) (v := some (.inl r9)) rfl (k_X12_fail d (by omega) 2 _ _ hv) ?_
        show mm_E (d + 1) 191 (43, [some (.inr (.inr (some (12, 0)))), some (.inl a1), some (.inl a2), some (.inl a3), some (.inl a4)], [.inl r9], m10) (.inl (some (.inl r.1)), r.2, 0, 0)
        obtain rfl := Option.some.inj hres
        exact e_ret rfl rfl
    · refine e_mask (L' := [some (.inr (.inr (some (12, 0)))), none, none, none, none]) rfl ?_
      refine e_steps 2 (s' := (23, [some (.inr (.inr (some (12, 0)))), none, none, none, none], [.inl 1, .inr (.inr (some (12, 0)))], m1)) rfl ?_
      obtain ⟨r11, m12, hv, hres⟩ := mm_b2_some hres
      refine e_call0 (pc := 26) (L := [some (.inr (.inr (some (12, 0)))), none, none, none, none]) (st := []) (m' := m12) (v := some (.inl r11)) rfl (k_X12_fail d (by omega) 1 _ _ hv) ?_
      show mm_E (d + 1) 191 (26, [some (.inr (.inr (some (12, 0)))), none, none, none, none], [.inl r11], m12) (.inl (some (.inl r.1)), r.2, 0, 0)
      obtain rfl := Option.some.inj hres
      exact e_ret rfl rfl
/-- GlassThreadsModel.evenings(I)I -/
def f_X12_evenings (a1 : Int32) (m : mm_M) : Option (Int32 × mm_M) :=
mm_let (mm_w m 12 0 3 0) fun m1 =>
if a1 < 0 then (mm_b2 (f_X12_fail 1 m1) fun r2 m3 =>
some (r2, m3))
else (if 999 < a1 then (mm_b2 (f_X12_fail 1 m1) fun r4 m5 =>
some (r4, m5))
else (if ((m1 12 0 5) + a1) ≤ 999 then (mm_let (mm_w m1 12 0 5 ((m1 12 0 5) + a1)) fun m6 =>
some ((m6 12 0 5), m6))
else (mm_b2 (f_X12_fail 1 m1) fun r7 m8 =>
some (r7, m8))))
set_option maxHeartbeats 4000000 in
set_option maxRecDepth 100000 in
theorem k_X12_evenings (d : Nat) (hd : 1 ≤ d) (a1 : Int32) (m : mm_M) (r : Int32 × mm_M) (hres : f_X12_evenings a1 m = some r) : mm_X d 192 [.inr (.inr (some (12, 0))), .inl a1] m (.inl (some (.inl r.1)), r.2, 0, 0) := by
  unfold f_X12_evenings at hres
  obtain ⟨d, rfl⟩ : ∃ e, d = e + 1 := ⟨d - 1, by omega⟩
  show mm_E (d + 1) 192 (0, [some (.inr (.inr (some (12, 0)))), some (.inl a1)], [], m) (.inl (some (.inl r.1)), r.2, 0, 0)
  refine e_steps 3 (s' := (5, [some (.inr (.inr (some (12, 0)))), some (.inl a1)], [], (mm_w m 12 0 3 0))) rfl ?_
  refine e_let (fun (m1 : mm_M) => (5, [some (.inr (.inr (some (12, 0)))), some (.inl a1)], [], m1)) hres (fun m1 hres => ?_)
  refine e_steps 1 (s' := (6, [some (.inr (.inr (some (12, 0)))), some (.inl a1)], [.inl a1], m1)) rfl ?_
  refine e_if (s1 := (28, [some (.inr (.inr (some (12, 0)))), some (.inl a1)], [], m1)) (s2 := (9, [some (.inr (.inr (some (12, 0)))), some (.inl a1)], [], m1)) rfl hres (fun hc hres => ?_) (fun hc hres => ?_)
  · refine e_mask (L' := [some (.inr (.inr (some (12, 0)))), none]) rfl ?_
    refine e_steps 2 (s' := (30, [some (.inr (.inr (some (12, 0)))), none], [.inl 1, .inr (.inr (some (12, 0)))], m1)) rfl ?_
    obtain ⟨r2, m3, hv, hres⟩ := mm_b2_some hres
    refine e_call0 (pc := 33) (L := [some (.inr (.inr (some (12, 0)))), none]) (st := []) (m' := m3) (v := some (.inl r2)) rfl (k_X12_fail d (by omega) 1 _ _ hv) ?_
    show mm_E (d + 1) 192 (33, [some (.inr (.inr (some (12, 0)))), none], [.inl r2], m3) (.inl (some (.inl r.1)), r.2, 0, 0)
    obtain rfl := Option.some.inj hres
    exact e_ret rfl rfl
  · refine e_steps 2 (s' := (13, [some (.inr (.inr (some (12, 0)))), some (.inl a1)], [.inl 999, .inl a1], m1)) rfl ?_
    refine e_if (s1 := (28, [some (.inr (.inr (some (12, 0)))), some (.inl a1)], [], m1)) (s2 := (16, [some (.inr (.inr (some (12, 0)))), some (.inl a1)], [], m1)) rfl hres (fun hc hres => ?_) (fun hc hres => ?_)
    · refine e_mask (L' := [some (.inr (.inr (some (12, 0)))), none]) rfl ?_
      refine e_steps 2 (s' := (30, [some (.inr (.inr (some (12, 0)))), none], [.inl 1, .inr (.inr (some (12, 0)))], m1)) rfl ?_
      obtain ⟨r4, m5, hv, hres⟩ := mm_b2_some hres
      refine e_call0 (pc := 33) (L := [some (.inr (.inr (some (12, 0)))), none]) (st := []) (m' := m5) (v := some (.inl r4)) rfl (k_X12_fail d (by omega) 1 _ _ hv) ?_
      show mm_E (d + 1) 192 (33, [some (.inr (.inr (some (12, 0)))), none], [.inl r4], m5) (.inl (some (.inl r.1)), r.2, 0, 0)
      obtain rfl := Option.some.inj hres
      exact e_ret rfl rfl
    · refine e_steps 5 (s' := (25, [some (.inr (.inr (some (12, 0)))), some (.inl a1)], [.inl 999, .inl ((m1 12 0 5) + a1)], m1)) rfl ?_
      refine e_if (s1 := (34, [some (.inr (.inr (some (12, 0)))), some (.inl a1)], [], m1)) (s2 := (28, [some (.inr (.inr (some (12, 0)))), some (.inl a1)], [], m1)) rfl hres (fun hc hres => ?_) (fun hc hres => ?_)
      · refine e_steps 6 (s' := (44, [some (.inr (.inr (some (12, 0)))), some (.inl a1)], [], (mm_w m1 12 0 5 ((m1 12 0 5) + a1)))) rfl ?_
        refine e_let (fun (m6 : mm_M) => (44, [some (.inr (.inr (some (12, 0)))), some (.inl a1)], [], m6)) hres (fun m6 hres => ?_)
        refine e_steps 2 (s' := (48, [some (.inr (.inr (some (12, 0)))), some (.inl a1)], [.inl (m6 12 0 5)], m6)) rfl ?_
        obtain rfl := Option.some.inj hres
        exact e_ret rfl rfl
      · refine e_mask (L' := [some (.inr (.inr (some (12, 0)))), none]) rfl ?_
        refine e_steps 2 (s' := (30, [some (.inr (.inr (some (12, 0)))), none], [.inl 1, .inr (.inr (some (12, 0)))], m1)) rfl ?_
        obtain ⟨r7, m8, hv, hres⟩ := mm_b2_some hres
        refine e_call0 (pc := 33) (L := [some (.inr (.inr (some (12, 0)))), none]) (st := []) (m' := m8) (v := some (.inl r7)) rfl (k_X12_fail d (by omega) 1 _ _ hv) ?_
        show mm_E (d + 1) 192 (33, [some (.inr (.inr (some (12, 0)))), none], [.inl r7], m8) (.inl (some (.inl r.1)), r.2, 0, 0)
        obtain rfl := Option.some.inj hres
        exact e_ret rfl rfl
/-- GlassThreadsModel.mayHappen(III)Z -/
def f_X12_mayHappen (a1 : Int32) (a2 : Int32) (a3 : Int32) (m : mm_M) : Option (Int32) :=
if a1 = 0 then (if mm_in a2 216 then (
if (m 69 0 a2.toNatClampNeg) ≠ 0 then (some 0)
else (mm_b1 (f_X12_isIn a3 1 20000 m) fun r1 =>
if r1 = 0 then (some 0)
else (some 1))) else none)
else if a1 = 1 then (if mm_in a2 216 then (
if (m 69 0 a2.toNatClampNeg) ≠ 0 then (some 0)
else (if mm_in a2 216 then (
mm_b1 (f_X12_isIn a3 0 (m 70 0 a2.toNatClampNeg) m) fun r2 =>
if r2 = 0 then (some 0)
else (some 1)) else none)) else none)
else if a1 = 2 then (if mm_in a2 216 then (
if (m 69 0 a2.toNatClampNeg) ≠ 3 then (some 0)
else (if a3 ≠ 0 then (some 0)
else (some 1))) else none)
else (if a3 ≠ 0 then (some 0)
else (some 1))
set_option maxHeartbeats 4000000 in
set_option maxRecDepth 100000 in
theorem k_X12_mayHappen (d : Nat) (hd : 1 ≤ d) (a1 : Int32) (a2 : Int32) (a3 : Int32) (m : mm_M) (r : Int32) (hres : f_X12_mayHappen a1 a2 a3 m = some r) : mm_X d 193 [.inr (.inr (some (12, 0))), .inl a1, .inl a2, .inl a3] m (.inl (some (.inl r)), m, 0, 0) := by
  unfold f_X12_mayHappen at hres
  obtain ⟨d, rfl⟩ : ∃ e, d = e + 1 := ⟨d - 1, by omega⟩
  show mm_E (d + 1) 193 (0, [some (.inr (.inr (some (12, 0)))), some (.inl a1), some (.inl a2), some (.inl a3)], [], m) (.inl (some (.inl r)), m, 0, 0)
  refine e_steps 1 (s' := (1, [some (.inr (.inr (some (12, 0)))), some (.inl a1), some (.inl a2), some (.inl a3)], [.inl a1], m)) rfl ?_
  refine e_sw (c := a1 = 0) (s1 := (28, [some (.inr (.inr (some (12, 0)))), some (.inl a1), some (.inl a2), some (.inl a3)], [], m)) rfl hres (fun hc hres => ?_) (fun hc hres hst => ?_)
  · refine e_steps 3 (s' := (33, [some (.inr (.inr (some (12, 0)))), some (.inl a1), some (.inl a2), some (.inl a3)], [.inl a2, .inr (.inr (some (69, 0)))], m)) rfl ?_
    refine e_gd (s1 := (34, [some (.inr (.inr (some (12, 0)))), some (.inl a1), some (.inl a2), some (.inl a3)], [.inl (m 69 0 a2.toNatClampNeg)], m)) rfl hres (fun hc hres => ?_)
    refine e_if (s1 := (52, [some (.inr (.inr (some (12, 0)))), some (.inl a1), some (.inl a2), some (.inl a3)], [], m)) (s2 := (37, [some (.inr (.inr (some (12, 0)))), some (.inl a1), some (.inl a2), some (.inl a3)], [], m)) rfl hres (fun hc hres => ?_) (fun hc hres => ?_)
    · refine e_mask (L' := [none, none, none, none]) rfl ?_
      refine e_steps 1 (s' := (53, [none, none, none, none], [.inl 0], m)) rfl ?_
      obtain rfl := Option.some.inj hres
      exact e_ret rfl rfl
    · refine e_steps 3 (s' := (42, [some (.inr (.inr (some (12, 0)))), some (.inl a1), some (.inl a2), some (.inl a3)], [.inl 20000, .inl 1, .inl a3], m)) rfl ?_
      obtain ⟨r1, hv, hres⟩ := mm_b1_some hres
      refine e_call0 (pc := 45) (L := [some (.inr (.inr (some (12, 0)))), some (.inl a1), some (.inl a2), some (.inl a3)]) (st := []) (m' := m) (v := some (.inl r1)) rfl (k_X12_isIn d (by omega) a3 1 20000 _ _ hv) ?_
      show mm_E (d + 1) 193 (45, [some (.inr (.inr (some (12, 0)))), some (.inl a1), some (.inl a2), some (.inl a3)], [.inl r1], m) (.inl (some (.inl r)), m, 0, 0)
      refine e_if (s1 := (52, [some (.inr (.inr (some (12, 0)))), some (.inl a1), some (.inl a2), some (.inl a3)], [], m)) (s2 := (48, [some (.inr (.inr (some (12, 0)))), some (.inl a1), some (.inl a2), some (.inl a3)], [], m)) rfl hres (fun hc hres => ?_) (fun hc hres => ?_)
      · refine e_mask (L' := [none, none, none, none]) rfl ?_
        refine e_steps 1 (s' := (53, [none, none, none, none], [.inl 0], m)) rfl ?_
        obtain rfl := Option.some.inj hres
        exact e_ret rfl rfl
      · refine e_steps 2 (s' := (53, [some (.inr (.inr (some (12, 0)))), some (.inl a1), some (.inl a2), some (.inl a3)], [.inl 1], m)) rfl ?_
        refine e_mask (L' := [none, none, none, none]) rfl ?_
        obtain rfl := Option.some.inj hres
        exact e_ret rfl rfl
  · refine e_sw (c := a1 = 1) (s1 := (54, [some (.inr (.inr (some (12, 0)))), some (.inl a1), some (.inl a2), some (.inl a3)], [], m)) hst hres (fun hc hres => ?_) (fun hc hres hst => ?_)
    · refine e_steps 3 (s' := (59, [some (.inr (.inr (some (12, 0)))), some (.inl a1), some (.inl a2), some (.inl a3)], [.inl a2, .inr (.inr (some (69, 0)))], m)) rfl ?_
      refine e_gd (s1 := (60, [some (.inr (.inr (some (12, 0)))), some (.inl a1), some (.inl a2), some (.inl a3)], [.inl (m 69 0 a2.toNatClampNeg)], m)) rfl hres (fun hc hres => ?_)
      refine e_if (s1 := (81, [some (.inr (.inr (some (12, 0)))), some (.inl a1), some (.inl a2), some (.inl a3)], [], m)) (s2 := (63, [some (.inr (.inr (some (12, 0)))), some (.inl a1), some (.inl a2), some (.inl a3)], [], m)) rfl hres (fun hc hres => ?_) (fun hc hres => ?_)
      · refine e_mask (L' := [none, none, none, none]) rfl ?_
        refine e_steps 1 (s' := (82, [none, none, none, none], [.inl 0], m)) rfl ?_
        obtain rfl := Option.some.inj hres
        exact e_ret rfl rfl
      · refine e_steps 5 (s' := (70, [some (.inr (.inr (some (12, 0)))), some (.inl a1), some (.inl a2), some (.inl a3)], [.inl a2, .inr (.inr (some (70, 0))), .inl 0, .inl a3], m)) rfl ?_
        refine e_gd (s1 := (71, [some (.inr (.inr (some (12, 0)))), some (.inl a1), some (.inl a2), some (.inl a3)], [.inl (m 70 0 a2.toNatClampNeg), .inl 0, .inl a3], m)) rfl hres (fun hc hres => ?_)
        obtain ⟨r2, hv, hres⟩ := mm_b1_some hres
        refine e_call0 (pc := 74) (L := [some (.inr (.inr (some (12, 0)))), some (.inl a1), some (.inl a2), some (.inl a3)]) (st := []) (m' := m) (v := some (.inl r2)) rfl (k_X12_isIn d (by omega) a3 0 (m 70 0 a2.toNatClampNeg) _ _ hv) ?_
        show mm_E (d + 1) 193 (74, [some (.inr (.inr (some (12, 0)))), some (.inl a1), some (.inl a2), some (.inl a3)], [.inl r2], m) (.inl (some (.inl r)), m, 0, 0)
        refine e_if (s1 := (81, [some (.inr (.inr (some (12, 0)))), some (.inl a1), some (.inl a2), some (.inl a3)], [], m)) (s2 := (77, [some (.inr (.inr (some (12, 0)))), some (.inl a1), some (.inl a2), some (.inl a3)], [], m)) rfl hres (fun hc hres => ?_) (fun hc hres => ?_)
        · refine e_mask (L' := [none, none, none, none]) rfl ?_
          refine e_steps 1 (s' := (82, [none, none, none, none], [.inl 0], m)) rfl ?_
          obtain rfl := Option.some.inj hres
          exact e_ret rfl rfl
        · refine e_steps 2 (s' := (82, [some (.inr (.inr (some (12, 0)))), some (.inl a1), some (.inl a2), some (.inl a3)], [.inl 1], m)) rfl ?_
          refine e_mask (L' := [none, none, none, none]) rfl ?_
          obtain rfl := Option.some.inj hres
          exact e_ret rfl rfl
    · refine e_sw (c := a1 = 2) (s1 := (83, [some (.inr (.inr (some (12, 0)))), some (.inl a1), some (.inl a2), some (.inl a3)], [], m)) hst hres (fun hc hres => ?_) (fun hc hres hst => ?_)
      · refine e_steps 3 (s' := (88, [some (.inr (.inr (some (12, 0)))), some (.inl a1), some (.inl a2), some (.inl a3)], [.inl a2, .inr (.inr (some (69, 0)))], m)) rfl ?_
        refine e_gd (s1 := (89, [some (.inr (.inr (some (12, 0)))), some (.inl a1), some (.inl a2), some (.inl a3)], [.inl (m 69 0 a2.toNatClampNeg)], m)) rfl hres (fun hc hres => ?_)
        refine e_steps 1 (s' := (90, [some (.inr (.inr (some (12, 0)))), some (.inl a1), some (.inl a2), some (.inl a3)], [.inl 3, .inl (m 69 0 a2.toNatClampNeg)], m)) rfl ?_
        refine e_if (s1 := (101, [some (.inr (.inr (some (12, 0)))), some (.inl a1), some (.inl a2), some (.inl a3)], [], m)) (s2 := (93, [some (.inr (.inr (some (12, 0)))), some (.inl a1), some (.inl a2), some (.inl a3)], [], m)) rfl hres (fun hc hres => ?_) (fun hc hres => ?_)
        · refine e_mask (L' := [none, none, none, none]) rfl ?_
          refine e_steps 1 (s' := (102, [none, none, none, none], [.inl 0], m)) rfl ?_
          obtain rfl := Option.some.inj hres
          exact e_ret rfl rfl
        · refine e_steps 1 (s' := (94, [some (.inr (.inr (some (12, 0)))), some (.inl a1), some (.inl a2), some (.inl a3)], [.inl a3], m)) rfl ?_
          refine e_if (s1 := (101, [some (.inr (.inr (some (12, 0)))), some (.inl a1), some (.inl a2), some (.inl a3)], [], m)) (s2 := (97, [some (.inr (.inr (some (12, 0)))), some (.inl a1), some (.inl a2), some (.inl a3)], [], m)) rfl hres (fun hc hres => ?_) (fun hc hres => ?_)
          · refine e_mask (L' := [none, none, none, none]) rfl ?_
            refine e_steps 1 (s' := (102, [none, none, none, none], [.inl 0], m)) rfl ?_
            obtain rfl := Option.some.inj hres
            exact e_ret rfl rfl
          · refine e_steps 2 (s' := (102, [some (.inr (.inr (some (12, 0)))), some (.inl a1), some (.inl a2), some (.inl a3)], [.inl 1], m)) rfl ?_
            refine e_mask (L' := [none, none, none, none]) rfl ?_
            obtain rfl := Option.some.inj hres
            exact e_ret rfl rfl
      · refine e_step (s' := (103, [some (.inr (.inr (some (12, 0)))), some (.inl a1), some (.inl a2), some (.inl a3)], [], m)) hst ?_
        refine e_steps 1 (s' := (104, [some (.inr (.inr (some (12, 0)))), some (.inl a1), some (.inl a2), some (.inl a3)], [.inl a3], m)) rfl ?_
        refine e_if (s1 := (111, [some (.inr (.inr (some (12, 0)))), some (.inl a1), some (.inl a2), some (.inl a3)], [], m)) (s2 := (107, [some (.inr (.inr (some (12, 0)))), some (.inl a1), some (.inl a2), some (.inl a3)], [], m)) rfl hres (fun hc hres => ?_) (fun hc hres => ?_)
        · refine e_steps 1 (s' := (112, [some (.inr (.inr (some (12, 0)))), some (.inl a1), some (.inl a2), some (.inl a3)], [.inl 0], m)) rfl ?_
          refine e_mask (L' := [none, none, none, none]) rfl ?_
          obtain rfl := Option.some.inj hres
          exact e_ret rfl rfl
        · refine e_steps 2 (s' := (112, [some (.inr (.inr (some (12, 0)))), some (.inl a1), some (.inl a2), some (.inl a3)], [.inl 1], m)) rfl ?_
          refine e_mask (L' := [none, none, none, none]) rfl ?_
          obtain rfl := Option.some.inj hres
          exact e_ret rfl rfl
/-- GlassThreadsModel.event(IIIII)I -/
def f_X12_event (a1 : Int32) (a2 : Int32) (a3 : Int32) (a4 : Int32) (a5 : Int32) (m : mm_M) : Option (Int32 × mm_M) :=
mm_let (mm_w m 12 0 3 0) fun m1 =>
mm_b1 (f_X12_isIn a1 0 3 m1) fun r2 =>
if r2 = 0 then (mm_b2 (f_X12_fail 1 m1) fun r3 m4 =>
some (r3, m4))
else (mm_b1 (f_X12_isPart a2 a3 m1) fun r5 =>
if r5 ≠ 0 then (if (m1 12 0 6) = 120 then (some ((-1), m1))
else (mm_b1 (f_X12_isIn a5 0 36499 m1) fun r6 =>
if r6 = 0 then (some ((-1), m1))
else (mm_b1 (f_X12_mayHappen a1 ((24 * a2) + a3) a4 m1) fun r7 =>
if r7 ≠ 0 then (if mm_in (m1 12 0 6) 120 then (
mm_let (mm_w m1 73 0 ((m1 12 0 6).toNatClampNeg) a1) fun m8 =>
if mm_in (m8 12 0 6) 120 then (
mm_let (mm_w m8 74 0 ((m8 12 0 6).toNatClampNeg) a2) fun m9 =>
if mm_in (m9 12 0 6) 120 then (
mm_let (mm_w m9 75 0 ((m9 12 0 6).toNatClampNeg) a3) fun m10 =>
if mm_in (m10 12 0 6) 120 then (
mm_let (mm_w m10 76 0 ((m10 12 0 6).toNatClampNeg) a4) fun m11 =>
if mm_in (m11 12 0 6) 120 then (
mm_let (mm_w m11 77 0 ((m11 12 0 6).toNatClampNeg) a5) fun m12 =>
if mm_in (m12 12 0 6) 120 then (
mm_let (mm_w m12 78 0 ((m12 12 0 6).toNatClampNeg) (m12 12 0 5)) fun m13 =>
if mm_in (m13 12 0 6) 120 then (
mm_let (mm_w m13 79 0 ((m13 12 0 6).toNatClampNeg) (-1)) fun m14 =>
mm_let (mm_w m14 12 0 6 ((m14 12 0 6) + 1)) fun m15 =>
some (((m15 12 0 6) - 1), m15)) else none) else none) else none) else none) else none) else none) else none)
else (some ((-1), m1)))))
else (mm_b2 (f_X12_fail 1 m1) fun r16 m17 =>
some (r16, m17)))
set_option maxHeartbeats 4000000 in
set_option maxRecDepth 100000 in
theorem k_X12_event (d : Nat) (hd : 3 ≤ d) (a1 : Int32) (a2 : Int32) (a3 : Int32) (a4 : Int32) (a5 : Int32) (m : mm_M) (r : Int32 × mm_M) (hres : f_X12_event a1 a2 a3 a4 a5 m = some r) : mm_X d 194 [.inr (.inr (some (12, 0))), .inl a1, .inl a2, .inl a3, .inl a4, .inl a5] m (.inl (some (.inl r.1)), r.2, 0, 0) := by
  unfold f_X12_event at hres
  obtain ⟨d, rfl⟩ : ∃ e, d = e + 1 := ⟨d - 1, by omega⟩
  show mm_E (d + 1) 194 (0, [some (.inr (.inr (some (12, 0)))), some (.inl a1), some (.inl a2), some (.inl a3), some (.inl a4), some (.inl a5)], [], m) (.inl (some (.inl r.1)), r.2, 0, 0)
  refine e_steps 3 (s' := (5, [some (.inr (.inr (some (12, 0)))), some (.inl a1), some (.inl a2), some (.inl a3), some (.inl a4), some (.inl a5)], [], (mm_w m 12 0 3 0))) rfl ?_
  refine e_let (fun (m1 : mm_M) => (5, [some (.inr (.inr (some (12, 0)))), some (.inl a1), some (.inl a2), some (.inl a3), some (.inl a4), some (.inl a5)], [], m1)) hres (fun m1 hres => ?_)
  refine e_steps 3 (s' := (8, [some (.inr (.inr (some (12, 0)))), some (.inl a1), some (.inl a2), some (.inl a3), some (.inl a4), some (.inl a5)], [.inl 3, .inl 0, .inl a1], m1)) rfl ?_
  obtain ⟨r2, hv, hres⟩ := mm_b1_some hres
  refine e_call0 (pc := 11) (L := [some (.inr (.inr (some (12, 0)))), some (.inl a1), some (.inl a2), some (.inl a3), some (.inl a4), some (.inl a5)]) (st := []) (m' := m1) (v := some (.inl r2)) rfl (k_X12_isIn d (by omega) a1 0 3 _ _ hv) ?_
  show mm_E (d + 1) 194 (11, [some (.inr (.inr (some (12, 0)))), some (.inl a1), some (.inl a2), some (.inl a3), some (.inl a4), some (.inl a5)], [.inl r2], m1) (.inl (some (.inl r.1)), r.2, 0, 0)
  refine e_if (s1 := (23, [some (.inr (.inr (some (12, 0)))), some (.inl a1), some (.inl a2), some (.inl a3), some (.inl a4), some (.inl a5)], [], m1)) (s2 := (14, [some (.inr (.inr (some (12, 0)))), some (.inl a1), some (.inl a2), some (.inl a3), some (.inl a4), some (.inl a5)], [], m1)) rfl hres (fun hc hres => ?_) (fun hc hres => ?_)
  · refine e_mask (L' := [some (.inr (.inr (some (12, 0)))), none, none, none, none, none]) rfl ?_
    refine e_steps 2 (s' := (25, [some (.inr (.inr (some (12, 0)))), none, none, none, none, none], [.inl 1, .inr (.inr (some (12, 0)))], m1)) rfl ?_
    obtain ⟨r3, m4, hv, hres⟩ := mm_b2_some hres
    refine e_call0 (pc := 28) (L := [some (.inr (.inr (some (12, 0)))), none, none, none, none, none]) (st := []) (m' := m4) (v := some (.inl r3)) rfl (k_X12_fail d (by omega) 1 _ _ hv) ?_
    show mm_E (d + 1) 194 (28, [some (.inr (.inr (some (12, 0)))), none, none, none, none, none], [.inl r3], m4) (.inl (some (.inl r.1)), r.2, 0, 0)
    obtain rfl := Option.some.inj hres
    exact e_ret rfl rfl
  · refine e_steps 3 (s' := (17, [some (.inr (.inr (some (12, 0)))), some (.inl a1), some (.inl a2), some (.inl a3), some (.inl a4), some (.inl a5)], [.inl a3, .inl a2, .inr (.inr (some (12, 0)))], m1)) rfl ?_
    obtain ⟨r5, hv, hres⟩ := mm_b1_some hres
    refine e_call0 (pc := 20) (L := [some (.inr (.inr (some (12, 0)))), some (.inl a1), some (.inl a2), some (.inl a3), some (.inl a4), some (.inl a5)]) (st := []) (m' := m1) (v := some (.inl r5)) rfl (k_X12_isPart d (by omega) a2 a3 _ _ hv) ?_
    show mm_E (d + 1) 194 (20, [some (.inr (.inr (some (12, 0)))), some (.inl a1), some (.inl a2), some (.inl a3), some (.inl a4), some (.inl a5)], [.inl r5], m1) (.inl (some (.inl r.1)), r.2, 0, 0)
    refine e_if (s1 := (29, [some (.inr (.inr (some (12, 0)))), some (.inl a1), some (.inl a2), some (.inl a3), some (.inl a4), some (.inl a5)], [], m1)) (s2 := (23, [some (.inr (.inr (some (12, 0)))), some (.inl a1), some (.inl a2), some (.inl a3), some (.inl a4), some (.inl a5)], [], m1)) rfl hres (fun hc hres => ?_) (fun hc hres => ?_)
    · refine e_steps 3 (s' := (35, [some (.inr (.inr (some (12, 0)))), some (.inl a1), some (.inl a2), some (.inl a3), some (.inl a4), some (.inl a5)], [.inl 120, .inl (m1 12 0 6)], m1)) rfl ?_
      refine e_if (s1 := (66, [some (.inr (.inr (some (12, 0)))), some (.inl a1), some (.inl a2), some (.inl a3), some (.inl a4), some (.inl a5)], [], m1)) (s2 := (38, [some (.inr (.inr (some (12, 0)))), some (.inl a1), some (.inl a2), some (.inl a3), some (.inl a4), some (.inl a5)], [], m1)) rfl hres (fun hc hres => ?_) (fun hc hres => ?_)
      · refine e_mask (L' := [none, none, none, none, none, none]) rfl ?_
        refine e_steps 1 (s' := (67, [none, none, none, none, none, none], [.inl (-1)], m1)) rfl ?_
        obtain rfl := Option.some.inj hres
        exact e_ret rfl rfl
      · refine e_steps 3 (s' := (44, [some (.inr (.inr (some (12, 0)))), some (.inl a1), some (.inl a2), some (.inl a3), some (.inl a4), some (.inl a5)], [.inl 36499, .inl 0, .inl a5], m1)) rfl ?_
        obtain ⟨r6, hv, hres⟩ := mm_b1_some hres
        refine e_call0 (pc := 47) (L := [some (.inr (.inr (some (12, 0)))), some (.inl a1), some (.inl a2), some (.inl a3), some (.inl a4), some (.inl a5)]) (st := []) (m' := m1) (v := some (.inl r6)) rfl (k_X12_isIn d (by omega) a5 0 36499 _ _ hv) ?_
        show mm_E (d + 1) 194 (47, [some (.inr (.inr (some (12, 0)))), some (.inl a1), some (.inl a2), some (.inl a3), some (.inl a4), some (.inl a5)], [.inl r6], m1) (.inl (some (.inl r.1)), r.2, 0, 0)
        refine e_if (s1 := (66, [some (.inr (.inr (some (12, 0)))), some (.inl a1), some (.inl a2), some (.inl a3), some (.inl a4), some (.inl a5)], [], m1)) (s2 := (50, [some (.inr (.inr (some (12, 0)))), some (.inl a1), some (.inl a2), some (.inl a3), some (.inl a4), some (.inl a5)], [], m1)) rfl hres (fun hc hres => ?_) (fun hc hres => ?_)
        · refine e_mask (L' := [none, none, none, none, none, none]) rfl ?_
          refine e_steps 1 (s' := (67, [none, none, none, none, none, none], [.inl (-1)], m1)) rfl ?_
          obtain rfl := Option.some.inj hres
          exact e_ret rfl rfl
        · refine e_steps 8 (s' := (60, [some (.inr (.inr (some (12, 0)))), some (.inl a1), some (.inl a2), some (.inl a3), some (.inl a4), some (.inl a5)], [.inl a4, .inl ((24 * a2) + a3), .inl a1, .inr (.inr (some (12, 0)))], m1)) rfl ?_
          obtain ⟨r7, hv, hres⟩ := mm_b1_some hres
          refine e_call0 (pc := 63) (L := [some (.inr (.inr (some (12, 0)))), some (.inl a1), some (.inl a2), some (.inl a3), some (.inl a4), some (.inl a5)]) (st := []) (m' := m1) (v := some (.inl r7)) rfl (k_X12_mayHappen d (by omega) a1 ((24 * a2) + a3) a4 _ _ hv) ?_
          show mm_E (d + 1) 194 (63, [some (.inr (.inr (some (12, 0)))), some (.inl a1), some (.inl a2), some (.inl a3), some (.inl a4), some (.inl a5)], [.inl r7], m1) (.inl (some (.inl r.1)), r.2, 0, 0)
          refine e_if (s1 := (68, [some (.inr (.inr (some (12, 0)))), some (.inl a1), some (.inl a2), some (.inl a3), some (.inl a4), some (.inl a5)], [], m1)) (s2 := (66, [some (.inr (.inr (some (12, 0)))), some (.inl a1), some (.inl a2), some (.inl a3), some (.inl a4), some (.inl a5)], [], m1)) rfl hres (fun hc hres => ?_) (fun hc hres => ?_)
          · refine e_steps 5 (s' := (77, [some (.inr (.inr (some (12, 0)))), some (.inl a1), some (.inl a2), some (.inl a3), some (.inl a4), some (.inl a5)], [.inl a1, .inl (m1 12 0 6), .inr (.inr (some (73, 0)))], m1)) rfl ?_
            refine e_gd (s1 := (78, [some (.inr (.inr (some (12, 0)))), some (.inl a1), some (.inl a2), some (.inl a3), some (.inl a4), some (.inl a5)], [], (mm_w m1 73 0 ((m1 12 0 6).toNatClampNeg) a1))) rfl hres (fun hc hres => ?_)
            refine e_let (fun (m8 : mm_M) => (78, [some (.inr (.inr (some (12, 0)))), some (.inl a1), some (.inl a2), some (.inl a3), some (.inl a4), some (.inl a5)], [], m8)) hres (fun m8 hres => ?_)
            refine e_steps 5 (s' := (87, [some (.inr (.inr (some (12, 0)))), some (.inl a1), some (.inl a2), some (.inl a3), some (.inl a4), some (.inl a5)], [.inl a2, .inl (m8 12 0 6), .inr (.inr (some (74, 0)))], m8)) rfl ?_
            refine e_gd (s1 := (88, [some (.inr (.inr (some (12, 0)))), some (.inl a1), some (.inl a2), some (.inl a3), some (.inl a4), some (.inl a5)], [], (mm_w m8 74 0 ((m8 12 0 6).toNatClampNeg) a2))) rfl hres (fun hc hres => ?_)
            refine e_let (fun (m9 : mm_M) => (88, [some (.inr (.inr (some (12, 0)))), some (.inl a1), some (.inl a2), some (.inl a3), some (.inl a4), some (.inl a5)], [], m9)) hres (fun m9 hres => ?_)
            refine e_steps 5 (s' := (97, [some (.inr (.inr (some (12, 0)))), some (.inl a1), some (.inl a2), some (.inl a3), some (.inl a4), some (.inl a5)], [.inl a3, .inl (m9 12 0 6), .inr (.inr (some (75, 0)))], m9)) rfl ?_
            refine e_gd (s1 := (98, [some (.inr (.inr (some (12, 0)))), some (.inl a1), some (.inl a2), some (.inl a3), some (.inl a4), some (.inl a5)], [], (mm_w m9 75 0 ((m9 12 0 6).toNatClampNeg) a3))) rfl hres (fun hc hres => ?_)
            refine e_let (fun (m10 : mm_M) => (98, [some (.inr (.inr (some (12, 0)))), some (.inl a1), some (.inl a2), some (.inl a3), some (.inl a4), some (.inl a5)], [], m10)) hres (fun m10 hres => ?_)
            refine e_steps 5 (s' := (108, [some (.inr (.inr (some (12, 0)))), some (.inl a1), some (.inl a2), some (.inl a3), some (.inl a4), some (.inl a5)], [.inl a4, .inl (m10 12 0 6), .inr (.inr (some (76, 0)))], m10)) rfl ?_
            refine e_gd (s1 := (109, [some (.inr (.inr (some (12, 0)))), some (.inl a1), some (.inl a2), some (.inl a3), some (.inl a4), some (.inl a5)], [], (mm_w m10 76 0 ((m10 12 0 6).toNatClampNeg) a4))) rfl hres (fun hc hres => ?_)
            refine e_let (fun (m11 : mm_M) => (109, [some (.inr (.inr (some (12, 0)))), some (.inl a1), some (.inl a2), some (.inl a3), some (.inl a4), some (.inl a5)], [], m11)) hres (fun m11 hres => ?_)
            refine e_steps 5 (s' := (119, [some (.inr (.inr (some (12, 0)))), some (.inl a1), some (.inl a2), some (.inl a3), some (.inl a4), some (.inl a5)], [.inl a5, .inl (m11 12 0 6), .inr (.inr (some (77, 0)))], m11)) rfl ?_
            refine e_gd (s1 := (120, [some (.inr (.inr (some (12, 0)))), some (.inl a1), some (.inl a2), some (.inl a3), some (.inl a4), some (.inl a5)], [], (mm_w m11 77 0 ((m11 12 0 6).toNatClampNeg) a5))) rfl hres (fun hc hres => ?_)
            refine e_let (fun (m12 : mm_M) => (120, [some (.inr (.inr (some (12, 0)))), some (.inl a1), some (.inl a2), some (.inl a3), some (.inl a4), some (.inl a5)], [], m12)) hres (fun m12 hres => ?_)
            refine e_steps 6 (s' := (132, [some (.inr (.inr (some (12, 0)))), some (.inl a1), some (.inl a2), some (.inl a3), some (.inl a4), some (.inl a5)], [.inl (m12 12 0 5), .inl (m12 12 0 6), .inr (.inr (some (78, 0)))], m12)) rfl ?_
            refine e_gd (s1 := (133, [some (.inr (.inr (some (12, 0)))), some (.inl a1), some (.inl a2), some (.inl a3), some (.inl a4), some (.inl a5)], [], (mm_w m12 78 0 ((m12 12 0 6).toNatClampNeg) (m12 12 0 5)))) rfl hres (fun hc hres => ?_)
            refine e_let (fun (m13 : mm_M) => (133, [some (.inr (.inr (some (12, 0)))), some (.inl a1), some (.inl a2), some (.inl a3), some (.inl a4), some (.inl a5)], [], m13)) hres (fun m13 hres => ?_)
            refine e_steps 5 (s' := (142, [some (.inr (.inr (some (12, 0)))), some (.inl a1), some (.inl a2), some (.inl a3), some (.inl a4), some (.inl a5)], [.inl (-1), .inl (m13 12 0 6), .inr (.inr (some (79, 0)))], m13)) rfl ?_
            refine e_gd (s1 := (143, [some (.inr (.inr (some (12, 0)))), some (.inl a1), some (.inl a2), some (.inl a3), some (.inl a4), some (.inl a5)], [], (mm_w m13 79 0 ((m13 12 0 6).toNatClampNeg) (-1)))) rfl hres (fun hc hres => ?_)
            refine e_let (fun (m14 : mm_M) => (143, [some (.inr (.inr (some (12, 0)))), some (.inl a1), some (.inl a2), some (.inl a3), some (.inl a4), some (.inl a5)], [], m14)) hres (fun m14 hres => ?_)
            refine e_steps 6 (s' := (153, [some (.inr (.inr (some (12, 0)))), some (.inl a1), some (.inl a2), some (.inl a3), some (.inl a4), some (.inl a5)], [], (mm_w m14 12 0 6 ((m14 12 0 6) + 1)))) rfl ?_
            refine e_let (fun (m15 : mm_M) => (153, [some (.inr (.inr (some (12, 0)))), some (.inl a1), some (.inl a2), some (.inl a3), some (.inl a4), some (.inl a5)], [], m15)) hres (fun m15 hres => ?_)
            refine e_steps 4 (s' := (159, [some (.inr (.inr (some (12, 0)))), some (.inl a1), some (.inl a2), some (.inl a3), some (.inl a4), some (.inl a5)], [.inl ((m15 12 0 6) - 1)], m15)) rfl ?_
            obtain rfl := Option.some.inj hres
            exact e_ret rfl rfl
          · refine e_mask (L' := [none, none, none, none, none, none]) rfl ?_
            refine e_steps 1 (s' := (67, [none, none, none, none, none, none], [.inl (-1)], m1)) rfl ?_
            obtain rfl := Option.some.inj hres
            exact e_ret rfl rfl
    · refine e_mask (L' := [some (.inr (.inr (some (12, 0)))), none, none, none, none, none]) rfl ?_
      refine e_steps 2 (s' := (25, [some (.inr (.inr (some (12, 0)))), none, none, none, none, none], [.inl 1, .inr (.inr (some (12, 0)))], m1)) rfl ?_
      obtain ⟨r16, m17, hv, hres⟩ := mm_b2_some hres
      refine e_call0 (pc := 28) (L := [some (.inr (.inr (some (12, 0)))), none, none, none, none, none]) (st := []) (m' := m17) (v := some (.inl r16)) rfl (k_X12_fail d (by omega) 1 _ _ hv) ?_
      show mm_E (d + 1) 194 (28, [some (.inr (.inr (some (12, 0)))), none, none, none, none, none], [.inl r16], m17) (.inl (some (.inl r.1)), r.2, 0, 0)
      obtain rfl := Option.some.inj hres
      exact e_ret rfl rfl
/-- GlassThreadsModel.back(I)Z -/
def f_X12_back (a1 : Int32) (m : mm_M) : Option (Int32 × mm_M) :=
mm_let (mm_w m 12 0 3 0) fun m1 =>
mm_b1 (f_X12_isIn a1 0 ((m1 12 0 6) - 1) m1) fun r2 =>
if r2 ≠ 0 then (if mm_in a1 120 then (
if (m1 79 0 a1.toNatClampNeg) = (-1) then (if mm_in a1 120 then (
mm_let (mm_w m1 79 0 a1.toNatClampNeg (m1 12 0 5)) fun m3 =>
some (1, m3)) else none)
else (some (0, m1))) else none)
else (mm_b2 (f_X12_refuse 1 m1) fun r4 m5 =>
if r4 = 0 ∨ r4 = 1 then some (r4, m5) else none)
set_option maxHeartbeats 4000000 in
set_option maxRecDepth 100000 in
theorem k_X12_back (d : Nat) (hd : 1 ≤ d) (a1 : Int32) (m : mm_M) (r : Int32 × mm_M) (hres : f_X12_back a1 m = some r) : mm_X d 195 [.inr (.inr (some (12, 0))), .inl a1] m (.inl (some (.inl r.1)), r.2, 0, 0) := by
  unfold f_X12_back at hres
  obtain ⟨d, rfl⟩ : ∃ e, d = e + 1 := ⟨d - 1, by omega⟩
  show mm_E (d + 1) 195 (0, [some (.inr (.inr (some (12, 0)))), some (.inl a1)], [], m) (.inl (some (.inl r.1)), r.2, 0, 0)
  refine e_steps 3 (s' := (5, [some (.inr (.inr (some (12, 0)))), some (.inl a1)], [], (mm_w m 12 0 3 0))) rfl ?_
  refine e_let (fun (m1 : mm_M) => (5, [some (.inr (.inr (some (12, 0)))), some (.inl a1)], [], m1)) hres (fun m1 hres => ?_)
  refine e_steps 6 (s' := (13, [some (.inr (.inr (some (12, 0)))), some (.inl a1)], [.inl ((m1 12 0 6) - 1), .inl 0, .inl a1], m1)) rfl ?_
  obtain ⟨r2, hv, hres⟩ := mm_b1_some hres
  refine e_call0 (pc := 16) (L := [some (.inr (.inr (some (12, 0)))), some (.inl a1)]) (st := []) (m' := m1) (v := some (.inl r2)) rfl (k_X12_isIn d (by omega) a1 0 ((m1 12 0 6) - 1) _ _ hv) ?_
  show mm_E (d + 1) 195 (16, [some (.inr (.inr (some (12, 0)))), some (.inl a1)], [.inl r2], m1) (.inl (some (.inl r.1)), r.2, 0, 0)
  refine e_if (s1 := (25, [some (.inr (.inr (some (12, 0)))), some (.inl a1)], [], m1)) (s2 := (19, [some (.inr (.inr (some (12, 0)))), some (.inl a1)], [], m1)) rfl hres (fun hc hres => ?_) (fun hc hres => ?_)
  · refine e_steps 3 (s' := (30, [some (.inr (.inr (some (12, 0)))), some (.inl a1)], [.inl a1, .inr (.inr (some (79, 0)))], m1)) rfl ?_
    refine e_gd (s1 := (31, [some (.inr (.inr (some (12, 0)))), some (.inl a1)], [.inl (m1 79 0 a1.toNatClampNeg)], m1)) rfl hres (fun hc hres => ?_)
    refine e_steps 1 (s' := (32, [some (.inr (.inr (some (12, 0)))), some (.inl a1)], [.inl (-1), .inl (m1 79 0 a1.toNatClampNeg)], m1)) rfl ?_
    refine e_if (s1 := (37, [some (.inr (.inr (some (12, 0)))), some (.inl a1)], [], m1)) (s2 := (35, [some (.inr (.inr (some (12, 0)))), some (.inl a1)], [], m1)) rfl hres (fun hc hres => ?_) (fun hc hres => ?_)
    · refine e_steps 5 (s' := (46, [some (.inr (.inr (some (12, 0)))), some (.inl a1)], [.inl (m1 12 0 5), .inl a1, .inr (.inr (some (79, 0)))], m1)) rfl ?_
      refine e_gd (s1 := (47, [some (.inr (.inr (some (12, 0)))), some (.inl a1)], [], (mm_w m1 79 0 a1.toNatClampNeg (m1 12 0 5)))) rfl hres (fun hc hres => ?_)
      refine e_let (fun (m3 : mm_M) => (47, [some (.inr (.inr (some (12, 0)))), some (.inl a1)], [], m3)) hres (fun m3 hres => ?_)
      refine e_steps 1 (s' := (48, [some (.inr (.inr (some (12, 0)))), some (.inl a1)], [.inl 1], m3)) rfl ?_
      obtain rfl := Option.some.inj hres
      exact e_ret rfl rfl
    · refine e_steps 1 (s' := (36, [some (.inr (.inr (some (12, 0)))), some (.inl a1)], [.inl 0], m1)) rfl ?_
      obtain rfl := Option.some.inj hres
      exact e_ret rfl rfl
  · refine e_steps 2 (s' := (21, [some (.inr (.inr (some (12, 0)))), some (.inl a1)], [.inl 1, .inr (.inr (some (12, 0)))], m1)) rfl ?_
    obtain ⟨r4, m5, hv, hres⟩ := mm_b2_some hres
    refine e_call0 (pc := 24) (L := [some (.inr (.inr (some (12, 0)))), some (.inl a1)]) (st := []) (m' := m5) (v := some (.inl r4)) rfl (k_X12_refuse d (by omega) 1 _ _ hv) ?_
    show mm_E (d + 1) 195 (24, [some (.inr (.inr (some (12, 0)))), some (.inl a1)], [.inl r4], m5) (.inl (some (.inl r.1)), r.2, 0, 0)
    refine e_gr (o := .inl (some (.inl r4))) rfl hres (fun hc hres => ?_)
    obtain rfl := Option.some.inj hres
    rfl
/-- GlassThreadsModel.clear()V -/
def f_X12_clear  (m : mm_M) : Option (mm_M) :=
(mm_b1 (mm_loop (σ := Int32 × mm_M) (ρ := (mm_M)) (fun (s : Int32 × mm_M) => match s with
| (v2, m3) => (if 24 ≤ v2 then (some (.inr m3))
else (if mm_in v2 24 then (
mm_let (mm_w m3 87 0 v2.toNatClampNeg 0) fun m4 =>
if mm_in v2 24 then (
mm_let (mm_w m4 88 0 v2.toNatClampNeg (-1)) fun m5 =>
if mm_in v2 24 then (
mm_let (mm_w m5 90 0 v2.toNatClampNeg 0) fun m6 =>
mm_let (v2 + 1) fun v7 =>
some (.inl (v7, m6))) else none) else none) else none) : Option ((Int32 × mm_M) ⊕ ((mm_M))))) mm_fu (0, m)) fun m8 =>
some m8)
set_option maxHeartbeats 4000000 in
set_option maxRecDepth 100000 in
theorem k_X12_clear (d : Nat) (hd : 0 ≤ d)  (m : mm_M) (r : mm_M) (hres : f_X12_clear  m = some r) : mm_X d 196 [.inr (.inr (some (12, 0)))] m (.inl none, r, 0, 0) := by
  unfold f_X12_clear at hres
  show mm_E d 196 (0, [some (.inr (.inr (some (12, 0)))), none], [], m) (.inl none, r, 0, 0)
  refine e_steps 2 (s' := (2, [some (.inr (.inr (some (12, 0)))), some (.inl 0)], [], m)) rfl ?_
  refine e_mask (L' := [some (.inr (.inr (some (12, 0)))), some (.inl 0)]) rfl ?_
  refine e_loopb (φ := fun s => (2, [some (.inr (.inr (some (12, 0)))), some (.inl s.1)], [], s.2)) (K := fun t => mm_E d 196 (35, [none, none], [], t) (.inl none, r, 0, 0)) hres (fun m8 hres => ?_) (fun s ol1 hres hcl1 hxl1 => ?_)
  · show mm_E d 196 (35, [none, none], [], m8) (.inl none, r, 0, 0)
    obtain rfl := Option.some.inj hres
    exact e_ret rfl rfl
  · obtain ⟨v2, m3⟩ := s
    show mm_E d 196 (2, [some (.inr (.inr (some (12, 0)))), some (.inl v2)], [], m3) (.inl none, r, 0, 0)
    refine e_steps 2 (s' := (5, [some (.inr (.inr (some (12, 0)))), some (.inl v2)], [.inl 24, .inl v2], m3)) rfl ?_
    refine e_if (s1 := (35, [some (.inr (.inr (some (12, 0)))), some (.inl v2)], [], m3)) (s2 := (8, [some (.inr (.inr (some (12, 0)))), some (.inl v2)], [], m3)) rfl hres (fun hc hres => ?_) (fun hc hres => ?_)
    · obtain rfl := Option.some.inj hres
      exact e_mask (L' := [none, none]) rfl (hxl1 _ rfl)
    · refine e_steps 4 (s' := (14, [some (.inr (.inr (some (12, 0)))), some (.inl v2)], [.inl 0, .inl v2, .inr (.inr (some (87, 0)))], m3)) rfl ?_
      refine e_gd (s1 := (15, [some (.inr (.inr (some (12, 0)))), some (.inl v2)], [], (mm_w m3 87 0 v2.toNatClampNeg 0))) rfl hres (fun hc hres => ?_)
      refine e_let (fun (m4 : mm_M) => (15, [some (.inr (.inr (some (12, 0)))), some (.inl v2)], [], m4)) hres (fun m4 hres => ?_)
      refine e_steps 4 (s' := (21, [some (.inr (.inr (some (12, 0)))), some (.inl v2)], [.inl (-1), .inl v2, .inr (.inr (some (88, 0)))], m4)) rfl ?_
      refine e_gd (s1 := (22, [some (.inr (.inr (some (12, 0)))), some (.inl v2)], [], (mm_w m4 88 0 v2.toNatClampNeg (-1)))) rfl hres (fun hc hres => ?_)
      refine e_let (fun (m5 : mm_M) => (22, [some (.inr (.inr (some (12, 0)))), some (.inl v2)], [], m5)) hres (fun m5 hres => ?_)
      refine e_steps 4 (s' := (28, [some (.inr (.inr (some (12, 0)))), some (.inl v2)], [.inl 0, .inl v2, .inr (.inr (some (90, 0)))], m5)) rfl ?_
      refine e_gd (s1 := (29, [some (.inr (.inr (some (12, 0)))), some (.inl v2)], [], (mm_w m5 90 0 v2.toNatClampNeg 0))) rfl hres (fun hc hres => ?_)
      refine e_let (fun (m6 : mm_M) => (29, [some (.inr (.inr (some (12, 0)))), some (.inl v2)], [], m6)) hres (fun m6 hres => ?_)
      refine e_steps 1 (s' := (32, [some (.inr (.inr (some (12, 0)))), some (.inl (v2 + 1))], [], m6)) rfl ?_
      refine e_let (fun (v7 : Int32) => (32, [some (.inr (.inr (some (12, 0)))), some (.inl v7)], [], m6)) hres (fun v7 hres => ?_)
      refine e_steps 1 (s' := (2, [some (.inr (.inr (some (12, 0)))), some (.inl v7)], [], m6)) rfl ?_
      obtain rfl := Option.some.inj hres
      exact e_mask (L' := [some (.inr (.inr (some (12, 0)))), some (.inl v7)]) rfl (hcl1 _ rfl)
/-- GlassThreadsModel.isKnown(II)Z -/
def f_X12_isKnown (a1 : Int32) (a2 : Int32) (m : mm_M) : Option (Int32) :=
if mm_in a1 120 then (
if a2 < (m 78 0 a1.toNatClampNeg) then (some 0)
else (if mm_in a1 120 then (
if (m 79 0 a1.toNatClampNeg) = (-1) then (some 1)
else (if mm_in a1 120 then (
if (m 79 0 a1.toNatClampNeg) ≤ a2 then (some 0)
else (some 1)) else none)) else none)) else none
set_option maxHeartbeats 4000000 in
set_option maxRecDepth 100000 in
theorem k_X12_isKnown (d : Nat) (hd : 0 ≤ d) (a1 : Int32) (a2 : Int32) (m : mm_M) (r : Int32) (hres : f_X12_isKnown a1 a2 m = some r) : mm_X d 197 [.inr (.inr (some (12, 0))), .inl a1, .inl a2] m (.inl (some (.inl r)), m, 0, 0) := by
  unfold f_X12_isKnown at hres
  show mm_E d 197 (0, [some (.inr (.inr (some (12, 0)))), some (.inl a1), some (.inl a2)], [], m) (.inl (some (.inl r)), m, 0, 0)
  refine e_steps 3 (s' := (5, [some (.inr (.inr (some (12, 0)))), some (.inl a1), some (.inl a2)], [.inl a1, .inr (.inr (some (78, 0)))], m)) rfl ?_
  refine e_gd (s1 := (6, [some (.inr (.inr (some (12, 0)))), some (.inl a1), some (.inl a2)], [.inl (m 78 0 a1.toNatClampNeg)], m)) rfl hres (fun hc hres => ?_)
  refine e_steps 1 (s' := (7, [some (.inr (.inr (some (12, 0)))), some (.inl a1), some (.inl a2)], [.inl a2, .inl (m 78 0 a1.toNatClampNeg)], m)) rfl ?_
  refine e_if (s1 := (34, [some (.inr (.inr (some (12, 0)))), some (.inl a1), some (.inl a2)], [], m)) (s2 := (10, [some (.inr (.inr (some (12, 0)))), some (.inl a1), some (.inl a2)], [], m)) rfl hres (fun hc hres => ?_) (fun hc hres => ?_)
  · refine e_mask (L' := [none, none, none]) rfl ?_
    refine e_steps 1 (s' := (35, [none, none, none], [.inl 0], m)) rfl ?_
    obtain rfl := Option.some.inj hres
    exact e_ret rfl rfl
  · refine e_steps 3 (s' := (15, [some (.inr (.inr (some (12, 0)))), some (.inl a1), some (.inl a2)], [.inl a1, .inr (.inr (some (79, 0)))], m)) rfl ?_
    refine e_gd (s1 := (16, [some (.inr (.inr (some (12, 0)))), some (.inl a1), some (.inl a2)], [.inl (m 79 0 a1.toNatClampNeg)], m)) rfl hres (fun hc hres => ?_)
    refine e_steps 1 (s' := (17, [some (.inr (.inr (some (12, 0)))), some (.inl a1), some (.inl a2)], [.inl (-1), .inl (m 79 0 a1.toNatClampNeg)], m)) rfl ?_
    refine e_if (s1 := (30, [some (.inr (.inr (some (12, 0)))), some (.inl a1), some (.inl a2)], [], m)) (s2 := (20, [some (.inr (.inr (some (12, 0)))), some (.inl a1), some (.inl a2)], [], m)) rfl hres (fun hc hres => ?_) (fun hc hres => ?_)
    · refine e_mask (L' := [none, none, none]) rfl ?_
      refine e_steps 2 (s' := (35, [none, none, none], [.inl 1], m)) rfl ?_
      obtain rfl := Option.some.inj hres
      exact e_ret rfl rfl
    · refine e_steps 3 (s' := (25, [some (.inr (.inr (some (12, 0)))), some (.inl a1), some (.inl a2)], [.inl a1, .inr (.inr (some (79, 0)))], m)) rfl ?_
      refine e_gd (s1 := (26, [some (.inr (.inr (some (12, 0)))), some (.inl a1), some (.inl a2)], [.inl (m 79 0 a1.toNatClampNeg)], m)) rfl hres (fun hc hres => ?_)
      refine e_steps 1 (s' := (27, [some (.inr (.inr (some (12, 0)))), some (.inl a1), some (.inl a2)], [.inl a2, .inl (m 79 0 a1.toNatClampNeg)], m)) rfl ?_
      refine e_if (s1 := (34, [some (.inr (.inr (some (12, 0)))), some (.inl a1), some (.inl a2)], [], m)) (s2 := (30, [some (.inr (.inr (some (12, 0)))), some (.inl a1), some (.inl a2)], [], m)) rfl hres (fun hc hres => ?_) (fun hc hres => ?_)
      · refine e_mask (L' := [none, none, none]) rfl ?_
        refine e_steps 1 (s' := (35, [none, none, none], [.inl 0], m)) rfl ?_
        obtain rfl := Option.some.inj hres
        exact e_ret rfl rfl
      · refine e_mask (L' := [none, none, none]) rfl ?_
        refine e_steps 2 (s' := (35, [none, none, none], [.inl 1], m)) rfl ?_
        obtain rfl := Option.some.inj hres
        exact e_ret rfl rfl
/-- GlassThreadsModel.mended(IIII)I -/
def f_X12_mended (a1 : Int32) (a2 : Int32) (a3 : Int32) (a4 : Int32) (m : mm_M) : Option (Int32) :=
(mm_b1 (mm_loop (σ := Int32 × Int32) (ρ := (Int32)) (fun (s : Int32 × Int32) => match s with
| (v2, v3) => (if (m 12 0 6) ≤ v3 then (some (.inr v2))
else (if mm_in v3 120 then (
if (m 73 0 v3.toNatClampNeg) ≠ 3 then (mm_let (v3 + 1) fun v4 =>
some (.inl (v2, v4)))
else (if mm_in v3 120 then (
if (m 74 0 v3.toNatClampNeg) ≠ a1 then (mm_let (v3 + 1) fun v5 =>
some (.inl (v2, v5)))
else (if mm_in v3 120 then (
if (m 75 0 v3.toNatClampNeg) ≠ a2 then (mm_let (v3 + 1) fun v6 =>
some (.inl (v2, v6)))
else (if mm_in v3 120 then (
if a3 < (m 77 0 v3.toNatClampNeg) then (mm_let (v3 + 1) fun v7 =>
some (.inl (v2, v7)))
else (mm_b1 (f_X12_isKnown v3 a4 m) fun r8 =>
if r8 ≠ 0 then (if v2 = (-1) then (mm_let (v3 + 1) fun v9 =>
some (.inl (v3, v9)))
else (if mm_in v3 120 then (
if mm_in v2 120 then (
if (m 77 0 v3.toNatClampNeg) < (m 77 0 v2.toNatClampNeg) then (mm_let (v3 + 1) fun v10 =>
some (.inl (v2, v10)))
else (mm_let (v3 + 1) fun v11 =>
some (.inl (v3, v11)))) else none) else none))
else (mm_let (v3 + 1) fun v12 =>
some (.inl (v2, v12))))) else none)) else none)) else none)) else none) : Option ((Int32 × Int32) ⊕ ((Int32))))) mm_fu ((-1), 0)) fun v13 =>
some v13)
set_option maxHeartbeats 4000000 in
set_option maxRecDepth 100000 in
theorem k_X12_mended (d : Nat) (hd : 1 ≤ d) (a1 : Int32) (a2 : Int32) (a3 : Int32) (a4 : Int32) (m : mm_M) (r : Int32) (hres : f_X12_mended a1 a2 a3 a4 m = some r) : mm_X d 198 [.inr (.inr (some (12, 0))), .inl a1, .inl a2, .inl a3, .inl a4] m (.inl (some (.inl r)), m, 0, 0) := by
  unfold f_X12_mended at hres
  obtain ⟨d, rfl⟩ : ∃ e, d = e + 1 := ⟨d - 1, by omega⟩
  show mm_E (d + 1) 198 (0, [some (.inr (.inr (some (12, 0)))), some (.inl a1), some (.inl a2), some (.inl a3), some (.inl a4), none, none], [], m) (.inl (some (.inl r)), m, 0, 0)
  refine e_steps 4 (s' := (6, [some (.inr (.inr (some (12, 0)))), some (.inl a1), some (.inl a2), some (.inl a3), some (.inl a4), some (.inl (-1)), some (.inl 0)], [], m)) rfl ?_
  refine e_mask (L' := [some (.inr (.inr (some (12, 0)))), some (.inl a1), some (.inl a2), some (.inl a3), some (.inl a4), some (.inl (-1)), some (.inl 0)]) rfl ?_
  refine e_loopb (φ := fun s => (6, [some (.inr (.inr (some (12, 0)))), some (.inl a1), some (.inl a2), some (.inl a3), some (.inl a4), some (.inl s.1), some (.inl s.2)], [], m)) (K := fun t => mm_E (d + 1) 198 (106, [none, none, none, none, none, some (.inl t), none], [], m) (.inl (some (.inl r)), m, 0, 0)) hres (fun v13 hres => ?_) (fun s ol1 hres hcl1 hxl1 => ?_)
  · show mm_E (d + 1) 198 (106, [none, none, none, none, none, some (.inl v13), none], [], m) (.inl (some (.inl r)), m, 0, 0)
    refine e_steps 1 (s' := (108, [none, none, none, none, none, some (.inl v13), none], [.inl v13], m)) rfl ?_
    obtain rfl := Option.some.inj hres
    exact e_ret rfl rfl
  · obtain ⟨v2, v3⟩ := s
    show mm_E (d + 1) 198 (6, [some (.inr (.inr (some (12, 0)))), some (.inl a1), some (.inl a2), some (.inl a3), some (.inl a4), some (.inl v2), some (.inl v3)], [], m) (.inl (some (.inl r)), m, 0, 0)
    refine e_steps 3 (s' := (12, [some (.inr (.inr (some (12, 0)))), some (.inl a1), some (.inl a2), some (.inl a3), some (.inl a4), some (.inl v2), some (.inl v3)], [.inl (m 12 0 6), .inl v3], m)) rfl ?_
    refine e_if (s1 := (106, [some (.inr (.inr (some (12, 0)))), some (.inl a1), some (.inl a2), some (.inl a3), some (.inl a4), some (.inl v2), some (.inl v3)], [], m)) (s2 := (15, [some (.inr (.inr (some (12, 0)))), some (.inl a1), some (.inl a2), some (.inl a3), some (.inl a4), some (.inl v2), some (.inl v3)], [], m)) rfl hres (fun hc hres => ?_) (fun hc hres => ?_)
    · obtain rfl := Option.some.inj hres
      exact e_mask (L' := [none, none, none, none, none, some (.inl v2), none]) rfl (hxl1 _ rfl)
    · refine e_steps 3 (s' := (21, [some (.inr (.inr (some (12, 0)))), some (.inl a1), some (.inl a2), some (.inl a3), some (.inl a4), some (.inl v2), some (.inl v3)], [.inl v3, .inr (.inr (some (73, 0)))], m)) rfl ?_
      refine e_gd (s1 := (22, [some (.inr (.inr (some (12, 0)))), some (.inl a1), some (.inl a2), some (.inl a3), some (.inl a4), some (.inl v2), some (.inl v3)], [.inl (m 73 0 v3.toNatClampNeg)], m)) rfl hres (fun hc hres => ?_)
      refine e_steps 1 (s' := (23, [some (.inr (.inr (some (12, 0)))), some (.inl a1), some (.inl a2), some (.inl a3), some (.inl a4), some (.inl v2), some (.inl v3)], [.inl 3, .inl (m 73 0 v3.toNatClampNeg)], m)) rfl ?_
      refine e_if (s1 := (100, [some (.inr (.inr (some (12, 0)))), some (.inl a1), some (.inl a2), some (.inl a3), some (.inl a4), some (.inl v2), some (.inl v3)], [], m)) (s2 := (26, [some (.inr (.inr (some (12, 0)))), some (.inl a1), some (.inl a2), some (.inl a3), some (.inl a4), some (.inl v2), some (.inl v3)], [], m)) rfl hres (fun hc hres => ?_) (fun hc hres => ?_)
      · refine e_steps 1 (s' := (103, [some (.inr (.inr (some (12, 0)))), some (.inl a1), some (.inl a2), some (.inl a3), some (.inl a4), some (.inl v2), some (.inl (v3 + 1))], [], m)) rfl ?_
        refine e_let (fun (v4 : Int32) => (103, [some (.inr (.inr (some (12, 0)))), some (.inl a1), some (.inl a2), some (.inl a3), some (.inl a4), some (.inl v2), some (.inl v4)], [], m)) hres (fun v4 hres => ?_)
        refine e_steps 1 (s' := (6, [some (.inr (.inr (some (12, 0)))), some (.inl a1), some (.inl a2), some (.inl a3), some (.inl a4), some (.inl v2), some (.inl v4)], [], m)) rfl ?_
        obtain rfl := Option.some.inj hres
        exact e_mask (L' := [some (.inr (.inr (some (12, 0)))), some (.inl a1), some (.inl a2), some (.inl a3), some (.inl a4), some (.inl v2), some (.inl v4)]) rfl (hcl1 _ rfl)
      · refine e_steps 3 (s' := (32, [some (.inr (.inr (some (12, 0)))), some (.inl a1), some (.inl a2), some (.inl a3), some (.inl a4), some (.inl v2), some (.inl v3)], [.inl v3, .inr (.inr (some (74, 0)))], m)) rfl ?_
        refine e_gd (s1 := (33, [some (.inr (.inr (some (12, 0)))), some (.inl a1), some (.inl a2), some (.inl a3), some (.inl a4), some (.inl v2), some (.inl v3)], [.inl (m 74 0 v3.toNatClampNeg)], m)) rfl hres (fun hc hres => ?_)
        refine e_steps 1 (s' := (34, [some (.inr (.inr (some (12, 0)))), some (.inl a1), some (.inl a2), some (.inl a3), some (.inl a4), some (.inl v2), some (.inl v3)], [.inl a1, .inl (m 74 0 v3.toNatClampNeg)], m)) rfl ?_
        refine e_if (s1 := (100, [some (.inr (.inr (some (12, 0)))), some (.inl a1), some (.inl a2), some (.inl a3), some (.inl a4), some (.inl v2), some (.inl v3)], [], m)) (s2 := (37, [some (.inr (.inr (some (12, 0)))), some (.inl a1), some (.inl a2), some (.inl a3), some (.inl a4), some (.inl v2), some (.inl v3)], [], m)) rfl hres (fun hc hres => ?_) (fun hc hres => ?_)
        · refine e_steps 1 (s' := (103, [some (.inr (.inr (some (12, 0)))), some (.inl a1), some (.inl a2), some (.inl a3), some (.inl a4), some (.inl v2), some (.inl (v3 + 1))], [], m)) rfl ?_
          refine e_let (fun (v5 : Int32) => (103, [some (.inr (.inr (some (12, 0)))), some (.inl a1), some (.inl a2), some (.inl a3), some (.inl a4), some (.inl v2), some (.inl v5)], [], m)) hres (fun v5 hres => ?_)
          refine e_steps 1 (s' := (6, [some (.inr (.inr (some (12, 0)))), some (.inl a1), some (.inl a2), some (.inl a3), some (.inl a4), some (.inl v2), some (.inl v5)], [], m)) rfl ?_
          obtain rfl := Option.some.inj hres
          exact e_mask (L' := [some (.inr (.inr (some (12, 0)))), some (.inl a1), some (.inl a2), some (.inl a3), some (.inl a4), some (.inl v2), some (.inl v5)]) rfl (hcl1 _ rfl)
        · refine e_steps 3 (s' := (43, [some (.inr (.inr (some (12, 0)))), some (.inl a1), some (.inl a2), some (.inl a3), some (.inl a4), some (.inl v2), some (.inl v3)], [.inl v3, .inr (.inr (some (75, 0)))], m)) rfl ?_
          refine e_gd (s1 := (44, [some (.inr (.inr (some (12, 0)))), some (.inl a1), some (.inl a2), some (.inl a3), some (.inl a4), some (.inl v2), some (.inl v3)], [.inl (m 75 0 v3.toNatClampNeg)], m)) rfl hres (fun hc hres => ?_)
          refine e_steps 1 (s' := (45, [some (.inr (.inr (some (12, 0)))), some (.inl a1), some (.inl a2), some (.inl a3), some (.inl a4), some (.inl v2), some (.inl v3)], [.inl a2, .inl (m 75 0 v3.toNatClampNeg)], m)) rfl ?_
          refine e_if (s1 := (100, [some (.inr (.inr (some (12, 0)))), some (.inl a1), some (.inl a2), some (.inl a3), some (.inl a4), some (.inl v2), some (.inl v3)], [], m)) (s2 := (48, [some (.inr (.inr (some (12, 0)))), some (.inl a1), some (.inl a2), some (.inl a3), some (.inl a4), some (.inl v2), some (.inl v3)], [], m)) rfl hres (fun hc hres => ?_) (fun hc hres => ?_)
          · refine e_steps 1 (s' := (103, [some (.inr (.inr (some (12, 0)))), some (.inl a1), some (.inl a2), some (.inl a3), some (.inl a4), some (.inl v2), some (.inl (v3 + 1))], [], m)) rfl ?_
            refine e_let (fun (v6 : Int32) => (103, [some (.inr (.inr (some (12, 0)))), some (.inl a1), some (.inl a2), some (.inl a3), some (.inl a4), some (.inl v2), some (.inl v6)], [], m)) hres (fun v6 hres => ?_)
            refine e_steps 1 (s' := (6, [some (.inr (.inr (some (12, 0)))), some (.inl a1), some (.inl a2), some (.inl a3), some (.inl a4), some (.inl v2), some (.inl v6)], [], m)) rfl ?_
            obtain rfl := Option.some.inj hres
            exact e_mask (L' := [some (.inr (.inr (some (12, 0)))), some (.inl a1), some (.inl a2), some (.inl a3), some (.inl a4), some (.inl v2), some (.inl v6)]) rfl (hcl1 _ rfl)
          · refine e_steps 3 (s' := (54, [some (.inr (.inr (some (12, 0)))), some (.inl a1), some (.inl a2), some (.inl a3), some (.inl a4), some (.inl v2), some (.inl v3)], [.inl v3, .inr (.inr (some (77, 0)))], m)) rfl ?_
            refine e_gd (s1 := (55, [some (.inr (.inr (some (12, 0)))), some (.inl a1), some (.inl a2), some (.inl a3), some (.inl a4), some (.inl v2), some (.inl v3)], [.inl (m 77 0 v3.toNatClampNeg)], m)) rfl hres (fun hc hres => ?_)
            refine e_steps 1 (s' := (56, [some (.inr (.inr (some (12, 0)))), some (.inl a1), some (.inl a2), some (.inl a3), some (.inl a4), some (.inl v2), some (.inl v3)], [.inl a3, .inl (m 77 0 v3.toNatClampNeg)], m)) rfl ?_
            refine e_if (s1 := (100, [some (.inr (.inr (some (12, 0)))), some (.inl a1), some (.inl a2), some (.inl a3), some (.inl a4), some (.inl v2), some (.inl v3)], [], m)) (s2 := (59, [some (.inr (.inr (some (12, 0)))), some (.inl a1), some (.inl a2), some (.inl a3), some (.inl a4), some (.inl v2), some (.inl v3)], [], m)) rfl hres (fun hc hres => ?_) (fun hc hres => ?_)
            · refine e_steps 1 (s' := (103, [some (.inr (.inr (some (12, 0)))), some (.inl a1), some (.inl a2), some (.inl a3), some (.inl a4), some (.inl v2), some (.inl (v3 + 1))], [], m)) rfl ?_
              refine e_let (fun (v7 : Int32) => (103, [some (.inr (.inr (some (12, 0)))), some (.inl a1), some (.inl a2), some (.inl a3), some (.inl a4), some (.inl v2), some (.inl v7)], [], m)) hres (fun v7 hres => ?_)
              refine e_steps 1 (s' := (6, [some (.inr (.inr (some (12, 0)))), some (.inl a1), some (.inl a2), some (.inl a3), some (.inl a4), some (.inl v2), some (.inl v7)], [], m)) rfl ?_
              obtain rfl := Option.some.inj hres
              exact e_mask (L' := [some (.inr (.inr (some (12, 0)))), some (.inl a1), some (.inl a2), some (.inl a3), some (.inl a4), some (.inl v2), some (.inl v7)]) rfl (hcl1 _ rfl)
            · refine e_steps 3 (s' := (64, [some (.inr (.inr (some (12, 0)))), some (.inl a1), some (.inl a2), some (.inl a3), some (.inl a4), some (.inl v2), some (.inl v3)], [.inl a4, .inl v3, .inr (.inr (some (12, 0)))], m)) rfl ?_
              obtain ⟨r8, hv, hres⟩ := mm_b1_some hres
              refine e_call0 (pc := 67) (L := [some (.inr (.inr (some (12, 0)))), some (.inl a1), some (.inl a2), some (.inl a3), some (.inl a4), some (.inl v2), some (.inl v3)]) (st := []) (m' := m) (v := some (.inl r8)) rfl (k_X12_isKnown d (by omega) v3 a4 _ _ hv) ?_
              show mm_E (d + 1) 198 (67, [some (.inr (.inr (some (12, 0)))), some (.inl a1), some (.inl a2), some (.inl a3), some (.inl a4), some (.inl v2), some (.inl v3)], [.inl r8], m) (.inl (some (.inl r)), m, 0, 0)
              refine e_if (s1 := (73, [some (.inr (.inr (some (12, 0)))), some (.inl a1), some (.inl a2), some (.inl a3), some (.inl a4), some (.inl v2), some (.inl v3)], [], m)) (s2 := (70, [some (.inr (.inr (some (12, 0)))), some (.inl a1), some (.inl a2), some (.inl a3), some (.inl a4), some (.inl v2), some (.inl v3)], [], m)) rfl hres (fun hc hres => ?_) (fun hc hres => ?_)
              · refine e_steps 2 (s' := (76, [some (.inr (.inr (some (12, 0)))), some (.inl a1), some (.inl a2), some (.inl a3), some (.inl a4), some (.inl v2), some (.inl v3)], [.inl (-1), .inl v2], m)) rfl ?_
                refine e_if (s1 := (96, [some (.inr (.inr (some (12, 0)))), some (.inl a1), some (.inl a2), some (.inl a3), some (.inl a4), some (.inl v2), some (.inl v3)], [], m)) (s2 := (79, [some (.inr (.inr (some (12, 0)))), some (.inl a1), some (.inl a2), some (.inl a3), some (.inl a4), some (.inl v2), some (.inl v3)], [], m)) rfl hres (fun hc hres => ?_) (fun hc hres => ?_)
                · refine e_mask (L' := [some (.inr (.inr (some (12, 0)))), some (.inl a1), some (.inl a2), some (.inl a3), some (.inl a4), none, some (.inl v3)]) rfl ?_
                  refine e_steps 3 (s' := (103, [some (.inr (.inr (some (12, 0)))), some (.inl a1), some (.inl a2), some (.inl a3), some (.inl a4), some (.inl v3), some (.inl (v3 + 1))], [], m)) rfl ?_
                  refine e_let (fun (v9 : Int32) => (103, [some (.inr (.inr (some (12, 0)))), some (.inl a1), some (.inl a2), some (.inl a3), some (.inl a4), some (.inl v3), some (.inl v9)], [], m)) hres (fun v9 hres => ?_)
                  refine e_steps 1 (s' := (6, [some (.inr (.inr (some (12, 0)))), some (.inl a1), some (.inl a2), some (.inl a3), some (.inl a4), some (.inl v3), some (.inl v9)], [], m)) rfl ?_
                  obtain rfl := Option.some.inj hres
                  exact e_mask (L' := [some (.inr (.inr (some (12, 0)))), some (.inl a1), some (.inl a2), some (.inl a3), some (.inl a4), some (.inl v3), some (.inl v9)]) rfl (hcl1 _ rfl)
                · refine e_steps 3 (s' := (85, [some (.inr (.inr (some (12, 0)))), some (.inl a1), some (.inl a2), some (.inl a3), some (.inl a4), some (.inl v2), some (.inl v3)], [.inl v3, .inr (.inr (some (77, 0)))], m)) rfl ?_
                  refine e_gd (s1 := (86, [some (.inr (.inr (some (12, 0)))), some (.inl a1), some (.inl a2), some (.inl a3), some (.inl a4), some (.inl v2), some (.inl v3)], [.inl (m 77 0 v3.toNatClampNeg)], m)) rfl hres (fun hc hres => ?_)
                  refine e_steps 3 (s' := (92, [some (.inr (.inr (some (12, 0)))), some (.inl a1), some (.inl a2), some (.inl a3), some (.inl a4), some (.inl v2), some (.inl v3)], [.inl v2, .inr (.inr (some (77, 0))), .inl (m 77 0 v3.toNatClampNeg)], m)) rfl ?_
                  refine e_gd (s1 := (93, [some (.inr (.inr (some (12, 0)))), some (.inl a1), some (.inl a2), some (.inl a3), some (.inl a4), some (.inl v2), some (.inl v3)], [.inl (m 77 0 v2.toNatClampNeg), .inl (m 77 0 v3.toNatClampNeg)], m)) rfl hres (fun hc hres => ?_)
                  refine e_if (s1 := (100, [some (.inr (.inr (some (12, 0)))), some (.inl a1), some (.inl a2), some (.inl a3), some (.inl a4), some (.inl v2), some (.inl v3)], [], m)) (s2 := (96, [some (.inr (.inr (some (12, 0)))), some (.inl a1), some (.inl a2), some (.inl a3), some (.inl a4), some (.inl v2), some (.inl v3)], [], m)) rfl hres (fun hc hres => ?_) (fun hc hres => ?_)
                  · refine e_steps 1 (s' := (103, [some (.inr (.inr (some (12, 0)))), some (.inl a1), some (.inl a2), some (.inl a3), some (.inl a4), some (.inl v2), some (.inl (v3 + 1))], [], m)) rfl ?_
                    refine e_let (fun (v10 : Int32) => (103, [some (.inr (.inr (some (12, 0)))), some (.inl a1), some (.inl a2), some (.inl a3), some (.inl a4), some (.inl v2), some (.inl v10)], [], m)) hres (fun v10 hres => ?_)
                    refine e_steps 1 (s' := (6, [some (.inr (.inr (some (12, 0)))), some (.inl a1), some (.inl a2), some (.inl a3), some (.inl a4), some (.inl v2), some (.inl v10)], [], m)) rfl ?_
                    obtain rfl := Option.some.inj hres
                    exact e_mask (L' := [some (.inr (.inr (some (12, 0)))), some (.inl a1), some (.inl a2), some (.inl a3), some (.inl a4), some (.inl v2), some (.inl v10)]) rfl (hcl1 _ rfl)
                  · refine e_mask (L' := [some (.inr (.inr (some (12, 0)))), some (.inl a1), some (.inl a2), some (.inl a3), some (.inl a4), none, some (.inl v3)]) rfl ?_
                    refine e_steps 3 (s' := (103, [some (.inr (.inr (some (12, 0)))), some (.inl a1), some (.inl a2), some (.inl a3), some (.inl a4), some (.inl v3), some (.inl (v3 + 1))], [], m)) rfl ?_
                    refine e_let (fun (v11 : Int32) => (103, [some (.inr (.inr (some (12, 0)))), some (.inl a1), some (.inl a2), some (.inl a3), some (.inl a4), some (.inl v3), some (.inl v11)], [], m)) hres (fun v11 hres => ?_)
                    refine e_steps 1 (s' := (6, [some (.inr (.inr (some (12, 0)))), some (.inl a1), some (.inl a2), some (.inl a3), some (.inl a4), some (.inl v3), some (.inl v11)], [], m)) rfl ?_
                    obtain rfl := Option.some.inj hres
                    exact e_mask (L' := [some (.inr (.inr (some (12, 0)))), some (.inl a1), some (.inl a2), some (.inl a3), some (.inl a4), some (.inl v3), some (.inl v11)]) rfl (hcl1 _ rfl)
              · refine e_steps 2 (s' := (103, [some (.inr (.inr (some (12, 0)))), some (.inl a1), some (.inl a2), some (.inl a3), some (.inl a4), some (.inl v2), some (.inl (v3 + 1))], [], m)) rfl ?_
                refine e_let (fun (v12 : Int32) => (103, [some (.inr (.inr (some (12, 0)))), some (.inl a1), some (.inl a2), some (.inl a3), some (.inl a4), some (.inl v2), some (.inl v12)], [], m)) hres (fun v12 hres => ?_)
                refine e_steps 1 (s' := (6, [some (.inr (.inr (some (12, 0)))), some (.inl a1), some (.inl a2), some (.inl a3), some (.inl a4), some (.inl v2), some (.inl v12)], [], m)) rfl ?_
                obtain rfl := Option.some.inj hres
                exact e_mask (L' := [some (.inr (.inr (some (12, 0)))), some (.inl a1), some (.inl a2), some (.inl a3), some (.inl a4), some (.inl v2), some (.inl v12)]) rfl (hcl1 _ rfl)
/-- GlassThreadsModel.tellState(III)V -/
def f_X12_tellState (a1 : Int32) (a2 : Int32) (a3 : Int32) (m : mm_M) : Option (mm_M) :=
mm_b1 (f_X12_clear m) fun m2 =>
(mm_b1 (mm_loop (σ := Int32 × mm_M) (ρ := (mm_M)) (fun (s : Int32 × mm_M) => match s with
| (v4, m5) => (if (m5 12 0 6) ≤ v4 then (some (.inr m5))
else (if mm_in v4 120 then (
mm_let (m5 75 0 v4.toNatClampNeg) fun v6 =>
if mm_in v4 120 then (
if (m5 74 0 v4.toNatClampNeg) ≠ a1 then (mm_let (v4 + 1) fun v7 =>
some (.inl (v7, m5)))
else (if mm_in v4 120 then (
if (m5 73 0 v4.toNatClampNeg) = 3 then (mm_let (v4 + 1) fun v8 =>
some (.inl (v8, m5)))
else (if mm_in v4 120 then (
if a2 < (m5 77 0 v4.toNatClampNeg) then (mm_let (v4 + 1) fun v9 =>
some (.inl (v9, m5)))
else (mm_b1 (f_X12_isKnown v4 a3 m5) fun r10 =>
if r10 ≠ 0 then (mm_b1 (f_X12_mended a1 v6 a2 a3 m5) fun r11 =>
mm_let (fun (w12 : Int32) => (if w12 = 0 then (if mm_in v4 120 then (
if (m5 73 0 v4.toNatClampNeg) ≠ 0 then (if mm_in v4 120 then (
if (m5 73 0 v4.toNatClampNeg) ≠ 2 then (if mm_in v6 24 then (
mm_let ((if mm_in v4 120 then (
if mm_in v6 24 then (
mm_let (mm_w m5 88 0 v6.toNatClampNeg (m5 76 0 v4.toNatClampNeg)) fun m15 =>
if mm_in v6 24 then (
mm_let (mm_w m15 89 0 v6.toNatClampNeg v4) fun m16 =>
mm_let (v4 + 1) fun v17 =>
some (.inl (v17, m16))) else none) else none) else none : Option ((Int32 × mm_M) ⊕ ((mm_M))))) fun k14 =>
if (m5 88 0 v6.toNatClampNeg) = (-1) then (k14)
else (if mm_in v4 120 then (
if mm_in v6 24 then (
if mm_in (m5 89 0 v6.toNatClampNeg) 120 then (
if (m5 77 0 v4.toNatClampNeg) < (m5 77 0 (m5 89 0 v6.toNatClampNeg).toNatClampNeg) then (mm_let (v4 + 1) fun v18 =>
some (.inl (v18, m5)))
else (k14)) else none) else none) else none)) else none)
else (if mm_in v6 24 then (
mm_let (mm_w m5 90 0 v6.toNatClampNeg 1) fun m19 =>
mm_let (v4 + 1) fun v20 =>
some (.inl (v20, m19))) else none)) else none)
else (if mm_in v6 24 then (
if mm_in v4 120 then (
if mm_in v6 24 then (
mm_let (mm_w m5 87 0 v6.toNatClampNeg ((m5 87 0 v6.toNatClampNeg) + (m5 76 0 v4.toNatClampNeg))) fun m21 =>
mm_let (v4 + 1) fun v22 =>
some (.inl (v22, m21))) else none) else none) else none)) else none)
else (mm_let (v4 + 1) fun v23 =>
some (.inl (v23, m5))) : Option ((Int32 × mm_M) ⊕ ((mm_M))))) fun k13 =>
if r11 = (-1) then (k13 0)
else (if mm_in v4 120 then (
if mm_in r11 120 then (
if (m5 77 0 v4.toNatClampNeg) < (m5 77 0 r11.toNatClampNeg) then (k13 1)
else (if mm_in v4 120 then (
if mm_in r11 120 then (
if (m5 77 0 v4.toNatClampNeg) ≠ (m5 77 0 r11.toNatClampNeg) then (k13 0)
else (if r11 ≤ v4 then (k13 0)
else (k13 1))) else none) else none)) else none) else none))
else (mm_let (v4 + 1) fun v24 =>
some (.inl (v24, m5))))) else none)) else none)) else none) else none) : Option ((Int32 × mm_M) ⊕ ((mm_M))))) mm_fu (0, m2)) fun m25 =>
some m25)
set_option maxHeartbeats 4000000 in
set_option maxRecDepth 100000 in
theorem k_X12_tellState (d : Nat) (hd : 2 ≤ d) (a1 : Int32) (a2 : Int32) (a3 : Int32) (m : mm_M) (r : mm_M) (hres : f_X12_tellState a1 a2 a3 m = some r) : mm_X d 199 [.inr (.inr (some (12, 0))), .inl a1, .inl a2, .inl a3] m (.inl none, r, 0, 0) := by
  unfold f_X12_tellState at hres
  obtain ⟨d, rfl⟩ : ∃ e, d = e + 1 := ⟨d - 1, by omega⟩
  show mm_E (d + 1) 199 (0, [some (.inr (.inr (some (12, 0)))), some (.inl a1), some (.inl a2), some (.inl a3), none, none, none, none], [], m) (.inl none, r, 0, 0)
  refine e_steps 1 (s' := (1, [some (.inr (.inr (some (12, 0)))), some (.inl a1), some (.inl a2), some (.inl a3), none, none, none, none], [.inr (.inr (some (12, 0)))], m)) rfl ?_
  obtain ⟨m2, hv, hres⟩ := mm_b1_some hres
  refine e_call0 (pc := 4) (L := [some (.inr (.inr (some (12, 0)))), some (.inl a1), some (.inl a2), some (.inl a3), none, none, none, none]) (st := []) (m' := m2) (v := none) rfl (k_X12_clear d (by omega)  _ _ hv) ?_
  show mm_E (d + 1) 199 (4, [some (.inr (.inr (some (12, 0)))), some (.inl a1), some (.inl a2), some (.inl a3), none, none, none, none], [], m2) (.inl none, r, 0, 0)
  refine e_steps 2 (s' := (7, [some (.inr (.inr (some (12, 0)))), some (.inl a1), some (.inl a2), some (.inl a3), some (.inl 0), none, none, none], [], m2)) rfl ?_
  refine e_mask (L' := [some (.inr (.inr (some (12, 0)))), some (.inl a1), some (.inl a2), some (.inl a3), some (.inl 0), none, none, none]) rfl ?_
  refine e_loopb (φ := fun s => (7, [some (.inr (.inr (some (12, 0)))), some (.inl a1), some (.inl a2), some (.inl a3), some (.inl s.1), none, none, none], [], s.2)) (K := fun t => mm_E (d + 1) 199 (258, [none, none, none, none, none, none, none, none], [], t) (.inl none, r, 0, 0)) hres (fun m25 hres => ?_) (fun s ol3 hres hcl3 hxl3 => ?_)
  · show mm_E (d + 1) 199 (258, [none, none, none, none, none, none, none, none], [], m25) (.inl none, r, 0, 0)
    obtain rfl := Option.some.inj hres
    exact e_ret rfl rfl
  · obtain ⟨v4, m5⟩ := s
    show mm_E (d + 1) 199 (7, [some (.inr (.inr (some (12, 0)))), some (.inl a1), some (.inl a2), some (.inl a3), some (.inl v4), none, none, none], [], m5) (.inl none, r, 0, 0)
    refine e_steps 3 (s' := (13, [some (.inr (.inr (some (12, 0)))), some (.inl a1), some (.inl a2), some (.inl a3), some (.inl v4), none, none, none], [.inl (m5 12 0 6), .inl v4], m5)) rfl ?_
    refine e_if (s1 := (258, [some (.inr (.inr (some (12, 0)))), some (.inl a1), some (.inl a2), some (.inl a3), some (.inl v4), none, none, none], [], m5)) (s2 := (16, [some (.inr (.inr (some (12, 0)))), some (.inl a1), some (.inl a2), some (.inl a3), some (.inl v4), none, none, none], [], m5)) rfl hres (fun hc hres => ?_) (fun hc hres => ?_)
    · obtain rfl := Option.some.inj hres
      exact e_mask (L' := [none, none, none, none, none, none, none, none]) rfl (hxl3 _ rfl)
    · refine e_steps 3 (s' := (22, [some (.inr (.inr (some (12, 0)))), some (.inl a1), some (.inl a2), some (.inl a3), some (.inl v4), none, none, none], [.inl v4, .inr (.inr (some (75, 0)))], m5)) rfl ?_
      refine e_gd (s1 := (23, [some (.inr (.inr (some (12, 0)))), some (.inl a1), some (.inl a2), some (.inl a3), some (.inl v4), none, none, none], [.inl (m5 75 0 v4.toNatClampNeg)], m5)) rfl hres (fun hc hres => ?_)
      refine e_steps 1 (s' := (25, [some (.inr (.inr (some (12, 0)))), some (.inl a1), some (.inl a2), some (.inl a3), some (.inl v4), some (.inl (m5 75 0 v4.toNatClampNeg)), none, none], [], m5)) rfl ?_
      refine e_let (fun (v6 : Int32) => (25, [some (.inr (.inr (some (12, 0)))), some (.inl a1), some (.inl a2), some (.inl a3), some (.inl v4), some (.inl v6), none, none], [], m5)) hres (fun v6 hres => ?_)
      refine e_steps 3 (s' := (31, [some (.inr (.inr (some (12, 0)))), some (.inl a1), some (.inl a2), some (.inl a3), some (.inl v4), some (.inl v6), none, none], [.inl v4, .inr (.inr (some (74, 0)))], m5)) rfl ?_
      refine e_gd (s1 := (32, [some (.inr (.inr (some (12, 0)))), some (.inl a1), some (.inl a2), some (.inl a3), some (.inl v4), some (.inl v6), none, none], [.inl (m5 74 0 v4.toNatClampNeg)], m5)) rfl hres (fun hc hres => ?_)
      refine e_steps 1 (s' := (33, [some (.inr (.inr (some (12, 0)))), some (.inl a1), some (.inl a2), some (.inl a3), some (.inl v4), some (.inl v6), none, none], [.inl a1, .inl (m5 74 0 v4.toNatClampNeg)], m5)) rfl ?_
      refine e_if (s1 := (252, [some (.inr (.inr (some (12, 0)))), some (.inl a1), some (.inl a2), some (.inl a3), some (.inl v4), some (.inl v6), none, none], [], m5)) (s2 := (36, [some (.inr (.inr (some (12, 0)))), some (.inl a1), some (.inl a2), some (.inl a3), some (.inl v4), some (.inl v6), none, none], [], m5)) rfl hres (fun hc hres => ?_) (fun hc hres => ?_)
      · refine e_mask (L' := [some (.inr (.inr (some (12, 0)))), some (.inl a1), some (.inl a2), some (.inl a3), some (.inl v4), none, none, none]) rfl ?_
        refine e_steps 1 (s' := (255, [some (.inr (.inr (some (12, 0)))), some (.inl a1), some (.inl a2), some (.inl a3), some (.inl (v4 + 1)), none, none, none], [], m5)) rfl ?_
        refine e_let (fun (v7 : Int32) => (255, [some (.inr (.inr (some (12, 0)))), some (.inl a1), some (.inl a2), some (.inl a3), some (.inl v7), none, none, none], [], m5)) hres (fun v7 hres => ?_)
        refine e_steps 1 (s' := (7, [some (.inr (.inr (some (12, 0)))), some (.inl a1), some (.inl a2), some (.inl a3), some (.inl v7), none, none, none], [], m5)) rfl ?_
        obtain rfl := Option.some.inj hres
        exact e_mask (L' := [some (.inr (.inr (some (12, 0)))), some (.inl a1), some (.inl a2), some (.inl a3), some (.inl v7), none, none, none]) rfl (hcl3 _ rfl)
      · refine e_steps 3 (s' := (42, [some (.inr (.inr (some (12, 0)))), some (.inl a1), some (.inl a2), some (.inl a3), some (.inl v4), some (.inl v6), none, none], [.inl v4, .inr (.inr (some (73, 0)))], m5)) rfl ?_
        refine e_gd (s1 := (43, [some (.inr (.inr (some (12, 0)))), some (.inl a1), some (.inl a2), some (.inl a3), some (.inl v4), some (.inl v6), none, none], [.inl (m5 73 0 v4.toNatClampNeg)], m5)) rfl hres (fun hc hres => ?_)
        refine e_steps 1 (s' := (44, [some (.inr (.inr (some (12, 0)))), some (.inl a1), some (.inl a2), some (.inl a3), some (.inl v4), some (.inl v6), none, none], [.inl 3, .inl (m5 73 0 v4.toNatClampNeg)], m5)) rfl ?_
        refine e_if (s1 := (252, [some (.inr (.inr (some (12, 0)))), some (.inl a1), some (.inl a2), some (.inl a3), some (.inl v4), some (.inl v6), none, none], [], m5)) (s2 := (47, [some (.inr (.inr (some (12, 0)))), some (.inl a1), some (.inl a2), some (.inl a3), some (.inl v4), some (.inl v6), none, none], [], m5)) rfl hres (fun hc hres => ?_) (fun hc hres => ?_)
        · refine e_mask (L' := [some (.inr (.inr (some (12, 0)))), some (.inl a1), some (.inl a2), some (.inl a3), some (.inl v4), none, none, none]) rfl ?_
          refine e_steps 1 (s' := (255, [some (.inr (.inr (some (12, 0)))), some (.inl a1), some (.inl a2), some (.inl a3), some (.inl (v4 + 1)), none, none, none], [], m5)) rfl ?_
          refine e_let (fun (v8 : Int32) => (255, [some (.inr (.inr (some (12, 0)))), some (.inl a1), some (.inl a2), some (.inl a3), some (.inl v8), none, none, none], [], m5)) hres (fun v8 hres => ?_)
          refine e_steps 1 (s' := (7, [some (.inr (.inr (some (12, 0)))), some (.inl a1), some (.inl a2), some (.inl a3), some (.inl v8), none, none, none], [], m5)) rfl ?_
          obtain rfl := Option.some.inj hres
          exact e_mask (L' := [some (.inr (.inr (some (12, 0)))), some (.inl a1), some (.inl a2), some (.inl a3), some (.inl v8), none, none, none]) rfl (hcl3 _ rfl)
        · refine e_steps 3 (s' := (53, [some (.inr (.inr (some (12, 0)))), some (.inl a1), some (.inl a2), some (.inl a3), some (.inl v4), some (.inl v6), none, none], [.inl v4, .inr (.inr (some (77, 0)))], m5)) rfl ?_
          refine e_gd (s1 := (54, [some (.inr (.inr (some (12, 0)))), some (.inl a1), some (.inl a2), some (.inl a3), some (.inl v4), some (.inl v6), none, none], [.inl (m5 77 0 v4.toNatClampNeg)], m5)) rfl hres (fun hc hres => ?_)
          refine e_steps 1 (s' := (55, [some (.inr (.inr (some (12, 0)))), some (.inl a1), some (.inl a2), some (.inl a3), some (.inl v4), some (.inl v6), none, none], [.inl a2, .inl (m5 77 0 v4.toNatClampNeg)], m5)) rfl ?_
          refine e_if (s1 := (252, [some (.inr (.inr (some (12, 0)))), some (.inl a1), some (.inl a2), some (.inl a3), some (.inl v4), some (.inl v6), none, none], [], m5)) (s2 := (58, [some (.inr (.inr (some (12, 0)))), some (.inl a1), some (.inl a2), some (.inl a3), some (.inl v4), some (.inl v6), none, none], [], m5)) rfl hres (fun hc hres => ?_) (fun hc hres => ?_)
          · refine e_mask (L' := [some (.inr (.inr (some (12, 0)))), some (.inl a1), some (.inl a2), some (.inl a3), some (.inl v4), none, none, none]) rfl ?_
            refine e_steps 1 (s' := (255, [some (.inr (.inr (some (12, 0)))), some (.inl a1), some (.inl a2), some (.inl a3), some (.inl (v4 + 1)), none, none, none], [], m5)) rfl ?_
            refine e_let (fun (v9 : Int32) => (255, [some (.inr (.inr (some (12, 0)))), some (.inl a1), some (.inl a2), some (.inl a3), some (.inl v9), none, none, none], [], m5)) hres (fun v9 hres => ?_)
            refine e_steps 1 (s' := (7, [some (.inr (.inr (some (12, 0)))), some (.inl a1), some (.inl a2), some (.inl a3), some (.inl v9), none, none, none], [], m5)) rfl ?_
            obtain rfl := Option.some.inj hres
            exact e_mask (L' := [some (.inr (.inr (some (12, 0)))), some (.inl a1), some (.inl a2), some (.inl a3), some (.inl v9), none, none, none]) rfl (hcl3 _ rfl)
          · refine e_steps 3 (s' := (62, [some (.inr (.inr (some (12, 0)))), some (.inl a1), some (.inl a2), some (.inl a3), some (.inl v4), some (.inl v6), none, none], [.inl a3, .inl v4, .inr (.inr (some (12, 0)))], m5)) rfl ?_
            obtain ⟨r10, hv, hres⟩ := mm_b1_some hres
            refine e_call0 (pc := 65) (L := [some (.inr (.inr (some (12, 0)))), some (.inl a1), some (.inl a2), some (.inl a3), some (.inl v4), some (.inl v6), none, none]) (st := []) (m' := m5) (v := some (.inl r10)) rfl (k_X12_isKnown d (by omega) v4 a3 _ _ hv) ?_
            show mm_E (d + 1) 199 (65, [some (.inr (.inr (some (12, 0)))), some (.inl a1), some (.inl a2), some (.inl a3), some (.inl v4), some (.inl v6), none, none], [.inl r10], m5) (.inl none, r, 0, 0)
            refine e_if (s1 := (71, [some (.inr (.inr (some (12, 0)))), some (.inl a1), some (.inl a2), some (.inl a3), some (.inl v4), some (.inl v6), none, none], [], m5)) (s2 := (68, [some (.inr (.inr (some (12, 0)))), some (.inl a1), some (.inl a2), some (.inl a3), some (.inl v4), some (.inl v6), none, none], [], m5)) rfl hres (fun hc hres => ?_) (fun hc hres => ?_)
            · refine e_steps 5 (s' := (77, [some (.inr (.inr (some (12, 0)))), some (.inl a1), some (.inl a2), some (.inl a3), some (.inl v4), some (.inl v6), none, none], [.inl a3, .inl a2, .inl v6, .inl a1, .inr (.inr (some (12, 0)))], m5)) rfl ?_
              obtain ⟨r11, hv, hres⟩ := mm_b1_some hres
              refine e_call0 (pc := 80) (L := [some (.inr (.inr (some (12, 0)))), some (.inl a1), some (.inl a2), some (.inl a3), some (.inl v4), some (.inl v6), none, none]) (st := []) (m' := m5) (v := some (.inl r11)) rfl (k_X12_mended d (by omega) a1 v6 a2 a3 _ _ hv) ?_
              show mm_E (d + 1) 199 (80, [some (.inr (.inr (some (12, 0)))), some (.inl a1), some (.inl a2), some (.inl a3), some (.inl v4), some (.inl v6), none, none], [.inl r11], m5) (.inl none, r, 0, 0)
              refine e_steps 3 (s' := (85, [some (.inr (.inr (some (12, 0)))), some (.inl a1), some (.inl a2), some (.inl a3), some (.inl v4), some (.inl v6), some (.inl r11), none], [.inl (-1), .inl r11], m5)) rfl ?_
              refine e_join (fun k13 => ∀ (w12 : Int32), k13 w12 = some ol3 → mm_E (d + 1) 199 (134, [some (.inr (.inr (some (12, 0)))), some (.inl a1), some (.inl a2), some (.inl a3), some (.inl v4), some (.inl v6), none, none], [.inl w12], m5) (.inl none, r, 0, 0)) hres (fun w12 hres => ?_) (fun k13 hk13 hres => ?_)
              · refine e_steps 2 (s' := (138, [some (.inr (.inr (some (12, 0)))), some (.inl a1), some (.inl a2), some (.inl a3), some (.inl v4), some (.inl v6), none, some (.inl w12)], [.inl w12], m5)) rfl ?_
                refine e_if (s1 := (144, [some (.inr (.inr (some (12, 0)))), some (.inl a1), some (.inl a2), some (.inl a3), some (.inl v4), some (.inl v6), none, some (.inl w12)], [], m5)) (s2 := (141, [some (.inr (.inr (some (12, 0)))), some (.inl a1), some (.inl a2), some (.inl a3), some (.inl v4), some (.inl v6), none, some (.inl w12)], [], m5)) rfl hres (fun hc hres => ?_) (fun hc hres => ?_)
                · refine e_steps 3 (s' := (150, [some (.inr (.inr (some (12, 0)))), some (.inl a1), some (.inl a2), some (.inl a3), some (.inl v4), some (.inl v6), none, some (.inl w12)], [.inl v4, .inr (.inr (some (73, 0)))], m5)) rfl ?_
                  refine e_gd (s1 := (151, [some (.inr (.inr (some (12, 0)))), some (.inl a1), some (.inl a2), some (.inl a3), some (.inl v4), some (.inl v6), none, some (.inl w12)], [.inl (m5 73 0 v4.toNatClampNeg)], m5)) rfl hres (fun hc hres => ?_)
                  refine e_if (s1 := (174, [some (.inr (.inr (some (12, 0)))), some (.inl a1), some (.inl a2), some (.inl a3), some (.inl v4), some (.inl v6), none, some (.inl w12)], [], m5)) (s2 := (154, [some (.inr (.inr (some (12, 0)))), some (.inl a1), some (.inl a2), some (.inl a3), some (.inl v4), some (.inl v6), none, some (.inl w12)], [], m5)) rfl hres (fun hc hres => ?_) (fun hc hres => ?_)
                  · refine e_steps 3 (s' := (180, [some (.inr (.inr (some (12, 0)))), some (.inl a1), some (.inl a2), some (.inl a3), some (.inl v4), some (.inl v6), none, some (.inl w12)], [.inl v4, .inr (.inr (some (73, 0)))], m5)) rfl ?_
                    refine e_gd (s1 := (181, [some (.inr (.inr (some (12, 0)))), some (.inl a1), some (.inl a2), some (.inl a3), some (.inl v4), some (.inl v6), none, some (.inl w12)], [.inl (m5 73 0 v4.toNatClampNeg)], m5)) rfl hres (fun hc hres => ?_)
                    refine e_steps 1 (s' := (182, [some (.inr (.inr (some (12, 0)))), some (.inl a1), some (.inl a2), some (.inl a3), some (.inl v4), some (.inl v6), none, some (.inl w12)], [.inl 2, .inl (m5 73 0 v4.toNatClampNeg)], m5)) rfl ?_
                    refine e_if (s1 := (196, [some (.inr (.inr (some (12, 0)))), some (.inl a1), some (.inl a2), some (.inl a3), some (.inl v4), some (.inl v6), none, some (.inl w12)], [], m5)) (s2 := (185, [some (.inr (.inr (some (12, 0)))), some (.inl a1), some (.inl a2), some (.inl a3), some (.inl v4), some (.inl v6), none, some (.inl w12)], [], m5)) rfl hres (fun hc hres => ?_) (fun hc hres => ?_)
                    · refine e_steps 3 (s' := (202, [some (.inr (.inr (some (12, 0)))), some (.inl a1), some (.inl a2), some (.inl a3), some (.inl v4), some (.inl v6), none, some (.inl w12)], [.inl v6, .inr (.inr (some (88, 0)))], m5)) rfl ?_
                      refine e_gd (s1 := (203, [some (.inr (.inr (some (12, 0)))), some (.inl a1), some (.inl a2), some (.inl a3), some (.inl v4), some (.inl v6), none, some (.inl w12)], [.inl (m5 88 0 v6.toNatClampNeg)], m5)) rfl hres (fun hc hres => ?_)
                      refine e_steps 1 (s' := (204, [some (.inr (.inr (some (12, 0)))), some (.inl a1), some (.inl a2), some (.inl a3), some (.inl v4), some (.inl v6), none, some (.inl w12)], [.inl (-1), .inl (m5 88 0 v6.toNatClampNeg)], m5)) rfl ?_
                      refine e_join (fun k14 => k14 = some ol3 → mm_E (d + 1) 199 (229, [some (.inr (.inr (some (12, 0)))), some (.inl a1), some (.inl a2), some (.inl a3), some (.inl v4), some (.inl v6), none, none], [], m5) (.inl none, r, 0, 0)) hres (fun  hres => ?_) (fun k14 hk14 hres => ?_)
                      · refine e_steps 6 (s' := (241, [some (.inr (.inr (some (12, 0)))), some (.inl a1), some (.inl a2), some (.inl a3), some (.inl v4), some (.inl v6), none, none], [.inl v4, .inr (.inr (some (76, 0))), .inl v6, .inr (.inr (some (88, 0)))], m5)) rfl ?_
                        refine e_gd (s1 := (242, [some (.inr (.inr (some (12, 0)))), some (.inl a1), some (.inl a2), some (.inl a3), some (.inl v4), some (.inl v6), none, none], [.inl (m5 76 0 v4.toNatClampNeg), .inl v6, .inr (.inr (some (88, 0)))], m5)) rfl hres (fun hc hres => ?_)
                        refine e_gd (s1 := (243, [some (.inr (.inr (some (12, 0)))), some (.inl a1), some (.inl a2), some (.inl a3), some (.inl v4), some (.inl v6), none, none], [], (mm_w m5 88 0 v6.toNatClampNeg (m5 76 0 v4.toNatClampNeg)))) rfl hres (fun hc hres => ?_)
                        refine e_let (fun (m15 : mm_M) => (243, [some (.inr (.inr (some (12, 0)))), some (.inl a1), some (.inl a2), some (.inl a3), some (.inl v4), some (.inl v6), none, none], [], m15)) hres (fun m15 hres => ?_)
                        refine e_steps 4 (s' := (251, [some (.inr (.inr (some (12, 0)))), some (.inl a1), some (.inl a2), some (.inl a3), some (.inl v4), some (.inl v6), none, none], [.inl v4, .inl v6, .inr (.inr (some (89, 0)))], m15)) rfl ?_
                        refine e_gd (s1 := (252, [some (.inr (.inr (some (12, 0)))), some (.inl a1), some (.inl a2), some (.inl a3), some (.inl v4), some (.inl v6), none, none], [], (mm_w m15 89 0 v6.toNatClampNeg v4))) rfl hres (fun hc hres => ?_)
                        refine e_let (fun (m16 : mm_M) => (252, [some (.inr (.inr (some (12, 0)))), some (.inl a1), some (.inl a2), some (.inl a3), some (.inl v4), some (.inl v6), none, none], [], m16)) hres (fun m16 hres => ?_)
                        refine e_mask (L' := [some (.inr (.inr (some (12, 0)))), some (.inl a1), some (.inl a2), some (.inl a3), some (.inl v4), none, none, none]) rfl ?_
                        refine e_steps 1 (s' := (255, [some (.inr (.inr (some (12, 0)))), some (.inl a1), some (.inl a2), some (.inl a3), some (.inl (v4 + 1)), none, none, none], [], m16)) rfl ?_
                        refine e_let (fun (v17 : Int32) => (255, [some (.inr (.inr (some (12, 0)))), some (.inl a1), some (.inl a2), some (.inl a3), some (.inl v17), none, none, none], [], m16)) hres (fun v17 hres => ?_)
                        refine e_steps 1 (s' := (7, [some (.inr (.inr (some (12, 0)))), some (.inl a1), some (.inl a2), some (.inl a3), some (.inl v17), none, none, none], [], m16)) rfl ?_
                        obtain rfl := Option.some.inj hres
                        exact e_mask (L' := [some (.inr (.inr (some (12, 0)))), some (.inl a1), some (.inl a2), some (.inl a3), some (.inl v17), none, none, none]) rfl (hcl3 _ rfl)
                      · refine e_if (s1 := (229, [some (.inr (.inr (some (12, 0)))), some (.inl a1), some (.inl a2), some (.inl a3), some (.inl v4), some (.inl v6), none, some (.inl w12)], [], m5)) (s2 := (207, [some (.inr (.inr (some (12, 0)))), some (.inl a1), some (.inl a2), some (.inl a3), some (.inl v4), some (.inl v6), none, some (.inl w12)], [], m5)) rfl hres (fun hc hres => ?_) (fun hc hres => ?_)
                        · exact e_mask (L' := [some (.inr (.inr (some (12, 0)))), some (.inl a1), some (.inl a2), some (.inl a3), some (.inl v4), some (.inl v6), none, none]) rfl (hk14  hres)
                        · refine e_steps 3 (s' := (213, [some (.inr (.inr (some (12, 0)))), some (.inl a1), some (.inl a2), some (.inl a3), some (.inl v4), some (.inl v6), none, some (.inl w12)], [.inl v4, .inr (.inr (some (77, 0)))], m5)) rfl ?_
                          refine e_gd (s1 := (214, [some (.inr (.inr (some (12, 0)))), some (.inl a1), some (.inl a2), some (.inl a3), some (.inl v4), some (.inl v6), none, some (.inl w12)], [.inl (m5 77 0 v4.toNatClampNeg)], m5)) rfl hres (fun hc hres => ?_)
                          refine e_steps 5 (s' := (224, [some (.inr (.inr (some (12, 0)))), some (.inl a1), some (.inl a2), some (.inl a3), some (.inl v4), some (.inl v6), none, some (.inl w12)], [.inl v6, .inr (.inr (some (89, 0))), .inr (.inr (some (77, 0))), .inl (m5 77 0 v4.toNatClampNeg)], m5)) rfl ?_
                          refine e_gd (s1 := (225, [some (.inr (.inr (some (12, 0)))), some (.inl a1), some (.inl a2), some (.inl a3), some (.inl v4), some (.inl v6), none, some (.inl w12)], [.inl (m5 89 0 v6.toNatClampNeg), .inr (.inr (some (77, 0))), .inl (m5 77 0 v4.toNatClampNeg)], m5)) rfl hres (fun hc hres => ?_)
                          refine e_gd (s1 := (226, [some (.inr (.inr (some (12, 0)))), some (.inl a1), some (.inl a2), some (.inl a3), some (.inl v4), some (.inl v6), none, some (.inl w12)], [.inl (m5 77 0 (m5 89 0 v6.toNatClampNeg).toNatClampNeg), .inl (m5 77 0 v4.toNatClampNeg)], m5)) rfl hres (fun hc hres => ?_)
                          refine e_if (s1 := (252, [some (.inr (.inr (some (12, 0)))), some (.inl a1), some (.inl a2), some (.inl a3), some (.inl v4), some (.inl v6), none, some (.inl w12)], [], m5)) (s2 := (229, [some (.inr (.inr (some (12, 0)))), some (.inl a1), some (.inl a2), some (.inl a3), some (.inl v4), some (.inl v6), none, some (.inl w12)], [], m5)) rfl hres (fun hc hres => ?_) (fun hc hres => ?_)
                          · refine e_mask (L' := [some (.inr (.inr (some (12, 0)))), some (.inl a1), some (.inl a2), some (.inl a3), some (.inl v4), none, none, none]) rfl ?_
                            refine e_steps 1 (s' := (255, [some (.inr (.inr (some (12, 0)))), some (.inl a1), some (.inl a2), some (.inl a3), some (.inl (v4 + 1)), none, none, none], [], m5)) rfl ?_
                            refine e_let (fun (v18 : Int32) => (255, [some (.inr (.inr (some (12, 0)))), some (.inl a1), some (.inl a2), some (.inl a3), some (.inl v18), none, none, none], [], m5)) hres (fun v18 hres => ?_)
                            refine e_steps 1 (s' := (7, [some (.inr (.inr (some (12, 0)))), some (.inl a1), some (.inl a2), some (.inl a3), some (.inl v18), none, none, none], [], m5)) rfl ?_
                            obtain rfl := Option.some.inj hres
                            exact e_mask (L' := [some (.inr (.inr (some (12, 0)))), some (.inl a1), some (.inl a2), some (.inl a3), some (.inl v18), none, none, none]) rfl (hcl3 _ rfl)
                          · exact e_mask (L' := [some (.inr (.inr (some (12, 0)))), some (.inl a1), some (.inl a2), some (.inl a3), some (.inl v4), some (.inl v6), none, none]) rfl (hk14  hres)
                    · refine e_steps 4 (s' := (192, [some (.inr (.inr (some (12, 0)))), some (.inl a1), some (.inl a2), some (.inl a3), some (.inl v4), some (.inl v6), none, some (.inl w12)], [.inl 1, .inl v6, .inr (.inr (some (90, 0)))], m5)) rfl ?_
                      refine e_gd (s1 := (193, [some (.inr (.inr (some (12, 0)))), some (.inl a1), some (.inl a2), some (.inl a3), some (.inl v4), some (.inl v6), none, some (.inl w12)], [], (mm_w m5 90 0 v6.toNatClampNeg 1))) rfl hres (fun hc hres => ?_)
                      refine e_let (fun (m19 : mm_M) => (193, [some (.inr (.inr (some (12, 0)))), some (.inl a1), some (.inl a2), some (.inl a3), some (.inl v4), some (.inl v6), none, some (.inl w12)], [], m19)) hres (fun m19 hres => ?_)
                      refine e_steps 1 (s' := (252, [some (.inr (.inr (some (12, 0)))), some (.inl a1), some (.inl a2), some (.inl a3), some (.inl v4), some (.inl v6), none, some (.inl w12)], [], m19)) rfl ?_
                      refine e_mask (L' := [some (.inr (.inr (some (12, 0)))), some (.inl a1), some (.inl a2), some (.inl a3), some (.inl v4), none, none, none]) rfl ?_
                      refine e_steps 1 (s' := (255, [some (.inr (.inr (some (12, 0)))), some (.inl a1), some (.inl a2), some (.inl a3), some (.inl (v4 + 1)), none, none, none], [], m19)) rfl ?_
                      refine e_let (fun (v20 : Int32) => (255, [some (.inr (.inr (some (12, 0)))), some (.inl a1), some (.inl a2), some (.inl a3), some (.inl v20), none, none, none], [], m19)) hres (fun v20 hres => ?_)
                      refine e_steps 1 (s' := (7, [some (.inr (.inr (some (12, 0)))), some (.inl a1), some (.inl a2), some (.inl a3), some (.inl v20), none, none, none], [], m19)) rfl ?_
                      obtain rfl := Option.some.inj hres
                      exact e_mask (L' := [some (.inr (.inr (some (12, 0)))), some (.inl a1), some (.inl a2), some (.inl a3), some (.inl v20), none, none, none]) rfl (hcl3 _ rfl)
                  · refine e_steps 4 (s' := (161, [some (.inr (.inr (some (12, 0)))), some (.inl a1), some (.inl a2), some (.inl a3), some (.inl v4), some (.inl v6), none, some (.inl w12)], [.inl v6, .inr (.inr (some (87, 0))), .inl v6, .inr (.inr (some (87, 0)))], m5)) rfl ?_
                    refine e_gd (s1 := (162, [some (.inr (.inr (some (12, 0)))), some (.inl a1), some (.inl a2), some (.inl a3), some (.inl v4), some (.inl v6), none, some (.inl w12)], [.inl (m5 87 0 v6.toNatClampNeg), .inl v6, .inr (.inr (some (87, 0)))], m5)) rfl hres (fun hc hres => ?_)
                    refine e_steps 3 (s' := (168, [some (.inr (.inr (some (12, 0)))), some (.inl a1), some (.inl a2), some (.inl a3), some (.inl v4), some (.inl v6), none, some (.inl w12)], [.inl v4, .inr (.inr (some (76, 0))), .inl (m5 87 0 v6.toNatClampNeg), .inl v6, .inr (.inr (some (87, 0)))], m5)) rfl ?_
                    refine e_gd (s1 := (169, [some (.inr (.inr (some (12, 0)))), some (.inl a1), some (.inl a2), some (.inl a3), some (.inl v4), some (.inl v6), none, some (.inl w12)], [.inl (m5 76 0 v4.toNatClampNeg), .inl (m5 87 0 v6.toNatClampNeg), .inl v6, .inr (.inr (some (87, 0)))], m5)) rfl hres (fun hc hres => ?_)
                    refine e_steps 1 (s' := (170, [some (.inr (.inr (some (12, 0)))), some (.inl a1), some (.inl a2), some (.inl a3), some (.inl v4), some (.inl v6), none, some (.inl w12)], [.inl ((m5 87 0 v6.toNatClampNeg) + (m5 76 0 v4.toNatClampNeg)), .inl v6, .inr (.inr (some (87, 0)))], m5)) rfl ?_
                    refine e_gd (s1 := (171, [some (.inr (.inr (some (12, 0)))), some (.inl a1), some (.inl a2), some (.inl a3), some (.inl v4), some (.inl v6), none, some (.inl w12)], [], (mm_w m5 87 0 v6.toNatClampNeg ((m5 87 0 v6.toNatClampNeg) + (m5 76 0 v4.toNatClampNeg))))) rfl hres (fun hc hres => ?_)
                    refine e_let (fun (m21 : mm_M) => (171, [some (.inr (.inr (some (12, 0)))), some (.inl a1), some (.inl a2), some (.inl a3), some (.inl v4), some (.inl v6), none, some (.inl w12)], [], m21)) hres (fun m21 hres => ?_)
                    refine e_steps 1 (s' := (252, [some (.inr (.inr (some (12, 0)))), some (.inl a1), some (.inl a2), some (.inl a3), some (.inl v4), some (.inl v6), none, some (.inl w12)], [], m21)) rfl ?_
                    refine e_mask (L' := [some (.inr (.inr (some (12, 0)))), some (.inl a1), some (.inl a2), some (.inl a3), some (.inl v4), none, none, none]) rfl ?_
                    refine e_steps 1 (s' := (255, [some (.inr (.inr (some (12, 0)))), some (.inl a1), some (.inl a2), some (.inl a3), some (.inl (v4 + 1)), none, none, none], [], m21)) rfl ?_
                    refine e_let (fun (v22 : Int32) => (255, [some (.inr (.inr (some (12, 0)))), some (.inl a1), some (.inl a2), some (.inl a3), some (.inl v22), none, none, none], [], m21)) hres (fun v22 hres => ?_)
                    refine e_steps 1 (s' := (7, [some (.inr (.inr (some (12, 0)))), some (.inl a1), some (.inl a2), some (.inl a3), some (.inl v22), none, none, none], [], m21)) rfl ?_
                    obtain rfl := Option.some.inj hres
                    exact e_mask (L' := [some (.inr (.inr (some (12, 0)))), some (.inl a1), some (.inl a2), some (.inl a3), some (.inl v22), none, none, none]) rfl (hcl3 _ rfl)
                · refine e_steps 1 (s' := (252, [some (.inr (.inr (some (12, 0)))), some (.inl a1), some (.inl a2), some (.inl a3), some (.inl v4), some (.inl v6), none, some (.inl w12)], [], m5)) rfl ?_
                  refine e_mask (L' := [some (.inr (.inr (some (12, 0)))), some (.inl a1), some (.inl a2), some (.inl a3), some (.inl v4), none, none, none]) rfl ?_
                  refine e_steps 1 (s' := (255, [some (.inr (.inr (some (12, 0)))), some (.inl a1), some (.inl a2), some (.inl a3), some (.inl (v4 + 1)), none, none, none], [], m5)) rfl ?_
                  refine e_let (fun (v23 : Int32) => (255, [some (.inr (.inr (some (12, 0)))), some (.inl a1), some (.inl a2), some (.inl a3), some (.inl v23), none, none, none], [], m5)) hres (fun v23 hres => ?_)
                  refine e_steps 1 (s' := (7, [some (.inr (.inr (some (12, 0)))), some (.inl a1), some (.inl a2), some (.inl a3), some (.inl v23), none, none, none], [], m5)) rfl ?_
                  obtain rfl := Option.some.inj hres
                  exact e_mask (L' := [some (.inr (.inr (some (12, 0)))), some (.inl a1), some (.inl a2), some (.inl a3), some (.inl v23), none, none, none]) rfl (hcl3 _ rfl)
              · refine e_if (s1 := (133, [some (.inr (.inr (some (12, 0)))), some (.inl a1), some (.inl a2), some (.inl a3), some (.inl v4), some (.inl v6), some (.inl r11), none], [], m5)) (s2 := (88, [some (.inr (.inr (some (12, 0)))), some (.inl a1), some (.inl a2), some (.inl a3), some (.inl v4), some (.inl v6), some (.inl r11), none], [], m5)) rfl hres (fun hc hres => ?_) (fun hc hres => ?_)
                · refine e_mask (L' := [some (.inr (.inr (some (12, 0)))), some (.inl a1), some (.inl a2), some (.inl a3), some (.inl v4), some (.inl v6), none, none]) rfl ?_
                  refine e_steps 1 (s' := (134, [some (.inr (.inr (some (12, 0)))), some (.inl a1), some (.inl a2), some (.inl a3), some (.inl v4), some (.inl v6), none, none], [.inl 0], m5)) rfl ?_
                  exact e_mask (L' := [some (.inr (.inr (some (12, 0)))), some (.inl a1), some (.inl a2), some (.inl a3), some (.inl v4), some (.inl v6), none, none]) rfl (hk13 _ hres)
                · refine e_steps 3 (s' := (94, [some (.inr (.inr (some (12, 0)))), some (.inl a1), some (.inl a2), some (.inl a3), some (.inl v4), some (.inl v6), some (.inl r11), none], [.inl v4, .inr (.inr (some (77, 0)))], m5)) rfl ?_
                  refine e_gd (s1 := (95, [some (.inr (.inr (some (12, 0)))), some (.inl a1), some (.inl a2), some (.inl a3), some (.inl v4), some (.inl v6), some (.inl r11), none], [.inl (m5 77 0 v4.toNatClampNeg)], m5)) rfl hres (fun hc hres => ?_)
                  refine e_steps 3 (s' := (101, [some (.inr (.inr (some (12, 0)))), some (.inl a1), some (.inl a2), some (.inl a3), some (.inl v4), some (.inl v6), some (.inl r11), none], [.inl r11, .inr (.inr (some (77, 0))), .inl (m5 77 0 v4.toNatClampNeg)], m5)) rfl ?_
                  refine e_gd (s1 := (102, [some (.inr (.inr (some (12, 0)))), some (.inl a1), some (.inl a2), some (.inl a3), some (.inl v4), some (.inl v6), some (.inl r11), none], [.inl (m5 77 0 r11.toNatClampNeg), .inl (m5 77 0 v4.toNatClampNeg)], m5)) rfl hres (fun hc hres => ?_)
                  refine e_if (s1 := (129, [some (.inr (.inr (some (12, 0)))), some (.inl a1), some (.inl a2), some (.inl a3), some (.inl v4), some (.inl v6), some (.inl r11), none], [], m5)) (s2 := (105, [some (.inr (.inr (some (12, 0)))), some (.inl a1), some (.inl a2), some (.inl a3), some (.inl v4), some (.inl v6), some (.inl r11), none], [], m5)) rfl hres (fun hc hres => ?_) (fun hc hres => ?_)
                  · refine e_mask (L' := [some (.inr (.inr (some (12, 0)))), some (.inl a1), some (.inl a2), some (.inl a3), some (.inl v4), some (.inl v6), none, none]) rfl ?_
                    refine e_steps 2 (s' := (134, [some (.inr (.inr (some (12, 0)))), some (.inl a1), some (.inl a2), some (.inl a3), some (.inl v4), some (.inl v6), none, none], [.inl 1], m5)) rfl ?_
                    exact e_mask (L' := [some (.inr (.inr (some (12, 0)))), some (.inl a1), some (.inl a2), some (.inl a3), some (.inl v4), some (.inl v6), none, none]) rfl (hk13 _ hres)
                  · refine e_steps 3 (s' := (111, [some (.inr (.inr (some (12, 0)))), some (.inl a1), some (.inl a2), some (.inl a3), some (.inl v4), some (.inl v6), some (.inl r11), none], [.inl v4, .inr (.inr (some (77, 0)))], m5)) rfl ?_
                    refine e_gd (s1 := (112, [some (.inr (.inr (some (12, 0)))), some (.inl a1), some (.inl a2), some (.inl a3), some (.inl v4), some (.inl v6), some (.inl r11), none], [.inl (m5 77 0 v4.toNatClampNeg)], m5)) rfl hres (fun hc hres => ?_)
                    refine e_steps 3 (s' := (118, [some (.inr (.inr (some (12, 0)))), some (.inl a1), some (.inl a2), some (.inl a3), some (.inl v4), some (.inl v6), some (.inl r11), none], [.inl r11, .inr (.inr (some (77, 0))), .inl (m5 77 0 v4.toNatClampNeg)], m5)) rfl ?_
                    refine e_gd (s1 := (119, [some (.inr (.inr (some (12, 0)))), some (.inl a1), some (.inl a2), some (.inl a3), some (.inl v4), some (.inl v6), some (.inl r11), none], [.inl (m5 77 0 r11.toNatClampNeg), .inl (m5 77 0 v4.toNatClampNeg)], m5)) rfl hres (fun hc hres => ?_)
                    refine e_if (s1 := (133, [some (.inr (.inr (some (12, 0)))), some (.inl a1), some (.inl a2), some (.inl a3), some (.inl v4), some (.inl v6), some (.inl r11), none], [], m5)) (s2 := (122, [some (.inr (.inr (some (12, 0)))), some (.inl a1), some (.inl a2), some (.inl a3), some (.inl v4), some (.inl v6), some (.inl r11), none], [], m5)) rfl hres (fun hc hres => ?_) (fun hc hres => ?_)
                    · refine e_mask (L' := [some (.inr (.inr (some (12, 0)))), some (.inl a1), some (.inl a2), some (.inl a3), some (.inl v4), some (.inl v6), none, none]) rfl ?_
                      refine e_steps 1 (s' := (134, [some (.inr (.inr (some (12, 0)))), some (.inl a1), some (.inl a2), some (.inl a3), some (.inl v4), some (.inl v6), none, none], [.inl 0], m5)) rfl ?_
                      exact e_mask (L' := [some (.inr (.inr (some (12, 0)))), some (.inl a1), some (.inl a2), some (.inl a3), some (.inl v4), some (.inl v6), none, none]) rfl (hk13 _ hres)
                    · refine e_steps 2 (s' := (126, [some (.inr (.inr (some (12, 0)))), some (.inl a1), some (.inl a2), some (.inl a3), some (.inl v4), some (.inl v6), some (.inl r11), none], [.inl r11, .inl v4], m5)) rfl ?_
                      refine e_if (s1 := (133, [some (.inr (.inr (some (12, 0)))), some (.inl a1), some (.inl a2), some (.inl a3), some (.inl v4), some (.inl v6), some (.inl r11), none], [], m5)) (s2 := (129, [some (.inr (.inr (some (12, 0)))), some (.inl a1), some (.inl a2), some (.inl a3), some (.inl v4), some (.inl v6), some (.inl r11), none], [], m5)) rfl hres (fun hc hres => ?_) (fun hc hres => ?_)
                      · refine e_mask (L' := [some (.inr (.inr (some (12, 0)))), some (.inl a1), some (.inl a2), some (.inl a3), some (.inl v4), some (.inl v6), none, none]) rfl ?_
                        refine e_steps 1 (s' := (134, [some (.inr (.inr (some (12, 0)))), some (.inl a1), some (.inl a2), some (.inl a3), some (.inl v4), some (.inl v6), none, none], [.inl 0], m5)) rfl ?_
                        exact e_mask (L' := [some (.inr (.inr (some (12, 0)))), some (.inl a1), some (.inl a2), some (.inl a3), some (.inl v4), some (.inl v6), none, none]) rfl (hk13 _ hres)
                      · refine e_mask (L' := [some (.inr (.inr (some (12, 0)))), some (.inl a1), some (.inl a2), some (.inl a3), some (.inl v4), some (.inl v6), none, none]) rfl ?_
                        refine e_steps 2 (s' := (134, [some (.inr (.inr (some (12, 0)))), some (.inl a1), some (.inl a2), some (.inl a3), some (.inl v4), some (.inl v6), none, none], [.inl 1], m5)) rfl ?_
                        exact e_mask (L' := [some (.inr (.inr (some (12, 0)))), some (.inl a1), some (.inl a2), some (.inl a3), some (.inl v4), some (.inl v6), none, none]) rfl (hk13 _ hres)
            · refine e_steps 1 (s' := (252, [some (.inr (.inr (some (12, 0)))), some (.inl a1), some (.inl a2), some (.inl a3), some (.inl v4), some (.inl v6), none, none], [], m5)) rfl ?_
              refine e_mask (L' := [some (.inr (.inr (some (12, 0)))), some (.inl a1), some (.inl a2), some (.inl a3), some (.inl v4), none, none, none]) rfl ?_
              refine e_steps 1 (s' := (255, [some (.inr (.inr (some (12, 0)))), some (.inl a1), some (.inl a2), some (.inl a3), some (.inl (v4 + 1)), none, none, none], [], m5)) rfl ?_
              refine e_let (fun (v24 : Int32) => (255, [some (.inr (.inr (some (12, 0)))), some (.inl a1), some (.inl a2), some (.inl a3), some (.inl v24), none, none, none], [], m5)) hres (fun v24 hres => ?_)
              refine e_steps 1 (s' := (7, [some (.inr (.inr (some (12, 0)))), some (.inl a1), some (.inl a2), some (.inl a3), some (.inl v24), none, none, none], [], m5)) rfl ?_
              obtain rfl := Option.some.inj hres
              exact e_mask (L' := [some (.inr (.inr (some (12, 0)))), some (.inl a1), some (.inl a2), some (.inl a3), some (.inl v24), none, none, none]) rfl (hcl3 _ rfl)
/-- GlassThreadsModel.ageOn(II)I -/
def f_X12_ageOn (a1 : Int32) (a2 : Int32) (m : mm_M) : Option (Int32) :=
if mm_in a1 8 then (
some (mm_max 0 ((a2 / 365) - (m 68 0 a1.toNatClampNeg)))) else none
set_option maxHeartbeats 4000000 in
set_option maxRecDepth 100000 in
theorem k_X12_ageOn (d : Nat) (hd : 0 ≤ d) (a1 : Int32) (a2 : Int32) (m : mm_M) (r : Int32) (hres : f_X12_ageOn a1 a2 m = some r) : mm_X d 200 [.inr (.inr (some (12, 0))), .inl a1, .inl a2] m (.inl (some (.inl r)), m, 0, 0) := by
  unfold f_X12_ageOn at hres
  show mm_E d 200 (0, [some (.inr (.inr (some (12, 0)))), some (.inl a1), some (.inl a2)], [], m) (.inl (some (.inl r)), m, 0, 0)
  refine e_steps 7 (s' := (11, [some (.inr (.inr (some (12, 0)))), some (.inl a1), some (.inl a2)], [.inl a1, .inr (.inr (some (68, 0))), .inl (a2 / 365), .inl 0], m)) rfl ?_
  refine e_gd (s1 := (12, [some (.inr (.inr (some (12, 0)))), some (.inl a1), some (.inl a2)], [.inl (m 68 0 a1.toNatClampNeg), .inl (a2 / 365), .inl 0], m)) rfl hres (fun hc hres => ?_)
  refine e_steps 2 (s' := (16, [some (.inr (.inr (some (12, 0)))), some (.inl a1), some (.inl a2)], [.inl (mm_max 0 ((a2 / 365) - (m 68 0 a1.toNatClampNeg)))], m)) rfl ?_
  obtain rfl := Option.some.inj hres
  exact e_ret rfl rfl
/-- GlassThreadsModel.through(IIIIZI)I -/
def f_X12_through (a1 : Int32) (a2 : Int32) (a3 : Int32) (a4 : Int32) (a5 : Int32) (a6 : Int32) (m : mm_M) : Option (Int32 × mm_M) :=
(mm_b1 (mm_loop (σ := Int32 × Int32 × mm_M) (ρ := (mm_M) ⊕ (Int32 × mm_M)) (fun (s : Int32 × Int32 × mm_M) => match s with
| (v2, v3, m4) => (if a2 ≤ v3 then (some (.inr (.inr (v2, m4))))
else (mm_let (fun (w5 : Int32) => (mm_let ((24 * a1) + w5) fun v7 =>
if mm_in w5 24 then (
if (m4 88 0 w5.toNatClampNeg) = (-1) then (if mm_in v7 216 then (
if (m4 69 0 v7.toNatClampNeg) = 3 then (if mm_in w5 24 then (
if (m4 90 0 w5.toNatClampNeg) = 0 then (if mm_in v7 216 then (
if (m4 71 0 v7.toNatClampNeg) ≤ v2 then (mm_let (v3 + 1) fun v8 =>
some (.inl (v2, v8, m4)))
else (if mm_in v7 216 then (
if mm_in v7 216 then (
mm_let (mm_min (m4 71 0 v7.toNatClampNeg) (v2 + (m4 70 0 v7.toNatClampNeg))) fun v9 =>
mm_let (v3 + 1) fun v10 =>
some (.inl (v9, v10, m4))) else none) else none)) else none)
else (mm_let (v2 + (-5000)) fun v11 =>
mm_let (v3 + 1) fun v12 =>
some (.inl (v11, v12, m4)))) else none)
else (mm_b2 (f_X12_lossOf v7 a3 a6 m4) fun r13 m14 =>
if mm_in w5 24 then (
mm_let (v2 - (r13 + (m14 87 0 w5.toNatClampNeg))) fun v15 =>
mm_let (v3 + 1) fun v16 =>
some (.inl (v15, v16, m14))) else none)) else none)
else (some (.inr (.inl m4)))) else none : Option ((Int32 × Int32 × mm_M) ⊕ ((mm_M) ⊕ (Int32 × mm_M))))) fun k6 =>
if a5 = 0 then (k6 v3)
else (if mm_in a1 9 then (
k6 (((m4 67 0 a1.toNatClampNeg) - 1) - v3)) else none)) : Option ((Int32 × Int32 × mm_M) ⊕ ((mm_M) ⊕ (Int32 × mm_M))))) mm_fu (a4, 0, m)) fun t => match t with
| .inl m17 => some ((-100000), m17)
| .inr (v18, m19) => some (v18, m19))
set_option maxHeartbeats 4000000 in
set_option maxRecDepth 100000 in
theorem k_X12_through (d : Nat) (hd : 3 ≤ d) (a1 : Int32) (a2 : Int32) (a3 : Int32) (a4 : Int32) (a5 : Int32) (a6 : Int32) (m : mm_M) (r : Int32 × mm_M) (hres : f_X12_through a1 a2 a3 a4 a5 a6 m = some r) : mm_X d 201 [.inr (.inr (some (12, 0))), .inl a1, .inl a2, .inl a3, .inl a4, .inl a5, .inl a6] m (.inl (some (.inl r.1)), r.2, 0, 0) := by
  unfold f_X12_through at hres
  obtain ⟨d, rfl⟩ : ∃ e, d = e + 1 := ⟨d - 1, by omega⟩
  show mm_E (d + 1) 201 (0, [some (.inr (.inr (some (12, 0)))), some (.inl a1), some (.inl a2), some (.inl a3), some (.inl a4), some (.inl a5), some (.inl a6), none, none, none, none], [], m) (.inl (some (.inl r.1)), r.2, 0, 0)
  refine e_steps 4 (s' := (7, [some (.inr (.inr (some (12, 0)))), some (.inl a1), some (.inl a2), some (.inl a3), some (.inl a4), some (.inl a5), some (.inl a6), some (.inl a4), some (.inl 0), none, none], [], m)) rfl ?_
  refine e_mask (L' := [some (.inr (.inr (some (12, 0)))), some (.inl a1), some (.inl a2), some (.inl a3), none, some (.inl a5), some (.inl a6), some (.inl a4), some (.inl 0), none, none]) rfl ?_
  refine e_loopb (φ := fun s => (7, [some (.inr (.inr (some (12, 0)))), some (.inl a1), some (.inl a2), some (.inl a3), none, some (.inl a5), some (.inl a6), some (.inl s.1), some (.inl s.2.1), none, none], [], s.2.2)) (K := fun t => match t with | .inl t => mm_E (d + 1) 201 (56, [none, none, none, none, none, none, none, none, none, none, none], [], t) (.inl (some (.inl r.1)), r.2, 0, 0) | .inr t => mm_E (d + 1) 201 (155, [none, none, none, none, none, none, none, some (.inl t.1), none, none, none], [], t.2) (.inl (some (.inl r.1)), r.2, 0, 0)) hres (fun t hres => ?_) (fun s ol1 hres hcl1 hxl1 => ?_)
  · rcases t with m17 | ⟨v18, m19⟩
    · show mm_E (d + 1) 201 (56, [none, none, none, none, none, none, none, none, none, none, none], [], m17) (.inl (some (.inl r.1)), r.2, 0, 0)
      refine e_steps 1 (s' := (59, [none, none, none, none, none, none, none, none, none, none, none], [.inl (-100000)], m17)) rfl ?_
      obtain rfl := Option.some.inj hres
      exact e_ret rfl rfl
    · show mm_E (d + 1) 201 (155, [none, none, none, none, none, none, none, some (.inl v18), none, none, none], [], m19) (.inl (some (.inl r.1)), r.2, 0, 0)
      refine e_steps 1 (s' := (157, [none, none, none, none, none, none, none, some (.inl v18), none, none, none], [.inl v18], m19)) rfl ?_
      obtain rfl := Option.some.inj hres
      exact e_ret rfl rfl
  · obtain ⟨v2, v3, m4⟩ := s
    show mm_E (d + 1) 201 (7, [some (.inr (.inr (some (12, 0)))), some (.inl a1), some (.inl a2), some (.inl a3), none, some (.inl a5), some (.inl a6), some (.inl v2), some (.inl v3), none, none], [], m4) (.inl (some (.inl r.1)), r.2, 0, 0)
    refine e_steps 2 (s' := (10, [some (.inr (.inr (some (12, 0)))), some (.inl a1), some (.inl a2), some (.inl a3), none, some (.inl a5), some (.inl a6), some (.inl v2), some (.inl v3), none, none], [.inl a2, .inl v3], m4)) rfl ?_
    refine e_if (s1 := (155, [some (.inr (.inr (some (12, 0)))), some (.inl a1), some (.inl a2), some (.inl a3), none, some (.inl a5), some (.inl a6), some (.inl v2), some (.inl v3), none, none], [], m4)) (s2 := (13, [some (.inr (.inr (some (12, 0)))), some (.inl a1), some (.inl a2), some (.inl a3), none, some (.inl a5), some (.inl a6), some (.inl v2), some (.inl v3), none, none], [], m4)) rfl hres (fun hc hres => ?_) (fun hc hres => ?_)
    · obtain rfl := Option.some.inj hres
      exact e_mask (L' := [none, none, none, none, none, none, none, some (.inl v2), none, none, none]) rfl (hxl1 _ rfl)
    · refine e_steps 1 (s' := (15, [some (.inr (.inr (some (12, 0)))), some (.inl a1), some (.inl a2), some (.inl a3), none, some (.inl a5), some (.inl a6), some (.inl v2), some (.inl v3), none, none], [.inl a5], m4)) rfl ?_
      refine e_join (fun k6 => ∀ (w5 : Int32), k6 w5 = some ol1 → mm_E (d + 1) 201 (34, [some (.inr (.inr (some (12, 0)))), some (.inl a1), some (.inl a2), some (.inl a3), none, some (.inl a5), some (.inl a6), some (.inl v2), some (.inl v3), none, none], [.inl w5], m4) (.inl (some (.inl r.1)), r.2, 0, 0)) hres (fun w5 hres => ?_) (fun k6 hk6 hres => ?_)
      · refine e_steps 7 (s' := (45, [some (.inr (.inr (some (12, 0)))), some (.inl a1), some (.inl a2), some (.inl a3), none, some (.inl a5), some (.inl a6), some (.inl v2), some (.inl v3), some (.inl w5), some (.inl ((24 * a1) + w5))], [], m4)) rfl ?_
        refine e_let (fun (v7 : Int32) => (45, [some (.inr (.inr (some (12, 0)))), some (.inl a1), some (.inl a2), some (.inl a3), none, some (.inl a5), some (.inl a6), some (.inl v2), some (.inl v3), some (.inl w5), some (.inl v7)], [], m4)) hres (fun v7 hres => ?_)
        refine e_steps 3 (s' := (51, [some (.inr (.inr (some (12, 0)))), some (.inl a1), some (.inl a2), some (.inl a3), none, some (.inl a5), some (.inl a6), some (.inl v2), some (.inl v3), some (.inl w5), some (.inl v7)], [.inl w5, .inr (.inr (some (88, 0)))], m4)) rfl ?_
        refine e_gd (s1 := (52, [some (.inr (.inr (some (12, 0)))), some (.inl a1), some (.inl a2), some (.inl a3), none, some (.inl a5), some (.inl a6), some (.inl v2), some (.inl v3), some (.inl w5), some (.inl v7)], [.inl (m4 88 0 w5.toNatClampNeg)], m4)) rfl hres (fun hc hres => ?_)
        refine e_steps 1 (s' := (53, [some (.inr (.inr (some (12, 0)))), some (.inl a1), some (.inl a2), some (.inl a3), none, some (.inl a5), some (.inl a6), some (.inl v2), some (.inl v3), some (.inl w5), some (.inl v7)], [.inl (-1), .inl (m4 88 0 w5.toNatClampNeg)], m4)) rfl ?_
        refine e_if (s1 := (60, [some (.inr (.inr (some (12, 0)))), some (.inl a1), some (.inl a2), some (.inl a3), none, some (.inl a5), some (.inl a6), some (.inl v2), some (.inl v3), some (.inl w5), some (.inl v7)], [], m4)) (s2 := (56, [some (.inr (.inr (some (12, 0)))), some (.inl a1), some (.inl a2), some (.inl a3), none, some (.inl a5), some (.inl a6), some (.inl v2), some (.inl v3), some (.inl w5), some (.inl v7)], [], m4)) rfl hres (fun hc hres => ?_) (fun hc hres => ?_)
        · refine e_steps 3 (s' := (66, [some (.inr (.inr (some (12, 0)))), some (.inl a1), some (.inl a2), some (.inl a3), none, some (.inl a5), some (.inl a6), some (.inl v2), some (.inl v3), some (.inl w5), some (.inl v7)], [.inl v7, .inr (.inr (some (69, 0)))], m4)) rfl ?_
          refine e_gd (s1 := (67, [some (.inr (.inr (some (12, 0)))), some (.inl a1), some (.inl a2), some (.inl a3), none, some (.inl a5), some (.inl a6), some (.inl v2), some (.inl v3), some (.inl w5), some (.inl v7)], [.inl (m4 69 0 v7.toNatClampNeg)], m4)) rfl hres (fun hc hres => ?_)
          refine e_steps 1 (s' := (68, [some (.inr (.inr (some (12, 0)))), some (.inl a1), some (.inl a2), some (.inl a3), none, some (.inl a5), some (.inl a6), some (.inl v2), some (.inl v3), some (.inl w5), some (.inl v7)], [.inl 3, .inl (m4 69 0 v7.toNatClampNeg)], m4)) rfl ?_
          refine e_if (s1 := (96, [some (.inr (.inr (some (12, 0)))), some (.inl a1), some (.inl a2), some (.inl a3), none, some (.inl a5), some (.inl a6), some (.inl v2), some (.inl v3), some (.inl w5), some (.inl v7)], [], m4)) (s2 := (71, [some (.inr (.inr (some (12, 0)))), some (.inl a1), some (.inl a2), some (.inl a3), none, some (.inl a5), some (.inl a6), some (.inl v2), some (.inl v3), some (.inl w5), some (.inl v7)], [], m4)) rfl hres (fun hc hres => ?_) (fun hc hres => ?_)
          · refine e_steps 3 (s' := (102, [some (.inr (.inr (some (12, 0)))), some (.inl a1), some (.inl a2), some (.inl a3), none, some (.inl a5), some (.inl a6), some (.inl v2), some (.inl v3), some (.inl w5), some (.inl v7)], [.inl w5, .inr (.inr (some (90, 0)))], m4)) rfl ?_
            refine e_gd (s1 := (103, [some (.inr (.inr (some (12, 0)))), some (.inl a1), some (.inl a2), some (.inl a3), none, some (.inl a5), some (.inl a6), some (.inl v2), some (.inl v3), some (.inl w5), some (.inl v7)], [.inl (m4 90 0 w5.toNatClampNeg)], m4)) rfl hres (fun hc hres => ?_)
            refine e_if (s1 := (115, [some (.inr (.inr (some (12, 0)))), some (.inl a1), some (.inl a2), some (.inl a3), none, some (.inl a5), some (.inl a6), some (.inl v2), some (.inl v3), some (.inl w5), some (.inl v7)], [], m4)) (s2 := (106, [some (.inr (.inr (some (12, 0)))), some (.inl a1), some (.inl a2), some (.inl a3), none, some (.inl a5), some (.inl a6), some (.inl v2), some (.inl v3), some (.inl w5), some (.inl v7)], [], m4)) rfl hres (fun hc hres => ?_) (fun hc hres => ?_)
            · refine e_steps 4 (s' := (123, [some (.inr (.inr (some (12, 0)))), some (.inl a1), some (.inl a2), some (.inl a3), none, some (.inl a5), some (.inl a6), some (.inl v2), some (.inl v3), some (.inl w5), some (.inl v7)], [.inl v7, .inr (.inr (some (71, 0))), .inl v2], m4)) rfl ?_
              refine e_gd (s1 := (124, [some (.inr (.inr (some (12, 0)))), some (.inl a1), some (.inl a2), some (.inl a3), none, some (.inl a5), some (.inl a6), some (.inl v2), some (.inl v3), some (.inl w5), some (.inl v7)], [.inl (m4 71 0 v7.toNatClampNeg), .inl v2], m4)) rfl hres (fun hc hres => ?_)
              refine e_if (s1 := (149, [some (.inr (.inr (some (12, 0)))), some (.inl a1), some (.inl a2), some (.inl a3), none, some (.inl a5), some (.inl a6), some (.inl v2), some (.inl v3), some (.inl w5), some (.inl v7)], [], m4)) (s2 := (127, [some (.inr (.inr (some (12, 0)))), some (.inl a1), some (.inl a2), some (.inl a3), none, some (.inl a5), some (.inl a6), some (.inl v2), some (.inl v3), some (.inl w5), some (.inl v7)], [], m4)) rfl hres (fun hc hres => ?_) (fun hc hres => ?_)
              · refine e_mask (L' := [some (.inr (.inr (some (12, 0)))), some (.inl a1), some (.inl a2), some (.inl a3), none, some (.inl a5), some (.inl a6), some (.inl v2), some (.inl v3), none, none]) rfl ?_
                refine e_steps 1 (s' := (152, [some (.inr (.inr (some (12, 0)))), some (.inl a1), some (.inl a2), some (.inl a3), none, some (.inl a5), some (.inl a6), some (.inl v2), some (.inl (v3 + 1)), none, none], [], m4)) rfl ?_
                refine e_let (fun (v8 : Int32) => (152, [some (.inr (.inr (some (12, 0)))), some (.inl a1), some (.inl a2), some (.inl a3), none, some (.inl a5), some (.inl a6), some (.inl v2), some (.inl v8), none, none], [], m4)) hres (fun v8 hres => ?_)
                refine e_steps 1 (s' := (7, [some (.inr (.inr (some (12, 0)))), some (.inl a1), some (.inl a2), some (.inl a3), none, some (.inl a5), some (.inl a6), some (.inl v2), some (.inl v8), none, none], [], m4)) rfl ?_
                obtain rfl := Option.some.inj hres
                exact e_mask (L' := [some (.inr (.inr (some (12, 0)))), some (.inl a1), some (.inl a2), some (.inl a3), none, some (.inl a5), some (.inl a6), some (.inl v2), some (.inl v8), none, none]) rfl (hcl1 _ rfl)
              · refine e_steps 3 (s' := (133, [some (.inr (.inr (some (12, 0)))), some (.inl a1), some (.inl a2), some (.inl a3), none, some (.inl a5), some (.inl a6), some (.inl v2), some (.inl v3), some (.inl w5), some (.inl v7)], [.inl v7, .inr (.inr (some (71, 0)))], m4)) rfl ?_
                refine e_gd (s1 := (134, [some (.inr (.inr (some (12, 0)))), some (.inl a1), some (.inl a2), some (.inl a3), none, some (.inl a5), some (.inl a6), some (.inl v2), some (.inl v3), some (.inl w5), some (.inl v7)], [.inl (m4 71 0 v7.toNatClampNeg)], m4)) rfl hres (fun hc hres => ?_)
                refine e_steps 4 (s' := (142, [some (.inr (.inr (some (12, 0)))), some (.inl a1), some (.inl a2), some (.inl a3), none, some (.inl a5), some (.inl a6), some (.inl v2), some (.inl v3), some (.inl w5), some (.inl v7)], [.inl v7, .inr (.inr (some (70, 0))), .inl v2, .inl (m4 71 0 v7.toNatClampNeg)], m4)) rfl ?_
                refine e_gd (s1 := (143, [some (.inr (.inr (some (12, 0)))), some (.inl a1), some (.inl a2), some (.inl a3), none, some (.inl a5), some (.inl a6), some (.inl v2), some (.inl v3), some (.inl w5), some (.inl v7)], [.inl (m4 70 0 v7.toNatClampNeg), .inl v2, .inl (m4 71 0 v7.toNatClampNeg)], m4)) rfl hres (fun hc hres => ?_)
                refine e_steps 3 (s' := (149, [some (.inr (.inr (some (12, 0)))), some (.inl a1), some (.inl a2), some (.inl a3), none, some (.inl a5), some (.inl a6), some (.inl (mm_min (m4 71 0 v7.toNatClampNeg) (v2 + (m4 70 0 v7.toNatClampNeg)))), some (.inl v3), some (.inl w5), some (.inl v7)], [], m4)) rfl ?_
                refine e_let (fun (v9 : Int32) => (149, [some (.inr (.inr (some (12, 0)))), some (.inl a1), some (.inl a2), some (.inl a3), none, some (.inl a5), some (.inl a6), some (.inl v9), some (.inl v3), some (.inl w5), some (.inl v7)], [], m4)) hres (fun v9 hres => ?_)
                refine e_mask (L' := [some (.inr (.inr (some (12, 0)))), some (.inl a1), some (.inl a2), some (.inl a3), none, some (.inl a5), some (.inl a6), some (.inl v9), some (.inl v3), none, none]) rfl ?_
                refine e_steps 1 (s' := (152, [some (.inr (.inr (some (12, 0)))), some (.inl a1), some (.inl a2), some (.inl a3), none, some (.inl a5), some (.inl a6), some (.inl v9), some (.inl (v3 + 1)), none, none], [], m4)) rfl ?_
                refine e_let (fun (v10 : Int32) => (152, [some (.inr (.inr (some (12, 0)))), some (.inl a1), some (.inl a2), some (.inl a3), none, some (.inl a5), some (.inl a6), some (.inl v9), some (.inl v10), none, none], [], m4)) hres (fun v10 hres => ?_)
                refine e_steps 1 (s' := (7, [some (.inr (.inr (some (12, 0)))), some (.inl a1), some (.inl a2), some (.inl a3), none, some (.inl a5), some (.inl a6), some (.inl v9), some (.inl v10), none, none], [], m4)) rfl ?_
                obtain rfl := Option.some.inj hres
                exact e_mask (L' := [some (.inr (.inr (some (12, 0)))), some (.inl a1), some (.inl a2), some (.inl a3), none, some (.inl a5), some (.inl a6), some (.inl v9), some (.inl v10), none, none]) rfl (hcl1 _ rfl)
            · refine e_steps 1 (s' := (112, [some (.inr (.inr (some (12, 0)))), some (.inl a1), some (.inl a2), some (.inl a3), none, some (.inl a5), some (.inl a6), some (.inl (v2 + (-5000))), some (.inl v3), some (.inl w5), some (.inl v7)], [], m4)) rfl ?_
              refine e_let (fun (v11 : Int32) => (112, [some (.inr (.inr (some (12, 0)))), some (.inl a1), some (.inl a2), some (.inl a3), none, some (.inl a5), some (.inl a6), some (.inl v11), some (.inl v3), some (.inl w5), some (.inl v7)], [], m4)) hres (fun v11 hres => ?_)
              refine e_steps 1 (s' := (149, [some (.inr (.inr (some (12, 0)))), some (.inl a1), some (.inl a2), some (.inl a3), none, some (.inl a5), some (.inl a6), some (.inl v11), some (.inl v3), some (.inl w5), some (.inl v7)], [], m4)) rfl ?_
              refine e_mask (L' := [some (.inr (.inr (some (12, 0)))), some (.inl a1), some (.inl a2), some (.inl a3), none, some (.inl a5), some (.inl a6), some (.inl v11), some (.inl v3), none, none]) rfl ?_
              refine e_steps 1 (s' := (152, [some (.inr (.inr (some (12, 0)))), some (.inl a1), some (.inl a2), some (.inl a3), none, some (.inl a5), some (.inl a6), some (.inl v11), some (.inl (v3 + 1)), none, none], [], m4)) rfl ?_
              refine e_let (fun (v12 : Int32) => (152, [some (.inr (.inr (some (12, 0)))), some (.inl a1), some (.inl a2), some (.inl a3), none, some (.inl a5), some (.inl a6), some (.inl v11), some (.inl v12), none, none], [], m4)) hres (fun v12 hres => ?_)
              refine e_steps 1 (s' := (7, [some (.inr (.inr (some (12, 0)))), some (.inl a1), some (.inl a2), some (.inl a3), none, some (.inl a5), some (.inl a6), some (.inl v11), some (.inl v12), none, none], [], m4)) rfl ?_
              obtain rfl := Option.some.inj hres
              exact e_mask (L' := [some (.inr (.inr (some (12, 0)))), some (.inl a1), some (.inl a2), some (.inl a3), none, some (.inl a5), some (.inl a6), some (.inl v11), some (.inl v12), none, none]) rfl (hcl1 _ rfl)
          · refine e_steps 5 (s' := (79, [some (.inr (.inr (some (12, 0)))), some (.inl a1), some (.inl a2), some (.inl a3), none, some (.inl a5), some (.inl a6), some (.inl v2), some (.inl v3), some (.inl w5), some (.inl v7)], [.inl a6, .inl a3, .inl v7, .inr (.inr (some (12, 0))), .inl v2], m4)) rfl ?_
            obtain ⟨r13, m14, hv, hres⟩ := mm_b2_some hres
            refine e_call0 (pc := 82) (L := [some (.inr (.inr (some (12, 0)))), some (.inl a1), some (.inl a2), some (.inl a3), none, some (.inl a5), some (.inl a6), some (.inl v2), some (.inl v3), some (.inl w5), some (.inl v7)]) (st := [.inl v2]) (m' := m14) (v := some (.inl r13)) rfl (k_X12_lossOf d (by omega) v7 a3 a6 _ _ hv) ?_
            show mm_E (d + 1) 201 (82, [some (.inr (.inr (some (12, 0)))), some (.inl a1), some (.inl a2), some (.inl a3), none, some (.inl a5), some (.inl a6), some (.inl v2), some (.inl v3), some (.inl w5), some (.inl v7)], [.inl r13, .inl v2], m14) (.inl (some (.inl r.1)), r.2, 0, 0)
            refine e_steps 3 (s' := (88, [some (.inr (.inr (some (12, 0)))), some (.inl a1), some (.inl a2), some (.inl a3), none, some (.inl a5), some (.inl a6), some (.inl v2), some (.inl v3), some (.inl w5), some (.inl v7)], [.inl w5, .inr (.inr (some (87, 0))), .inl r13, .inl v2], m14)) rfl ?_
            refine e_gd (s1 := (89, [some (.inr (.inr (some (12, 0)))), some (.inl a1), some (.inl a2), some (.inl a3), none, some (.inl a5), some (.inl a6), some (.inl v2), some (.inl v3), some (.inl w5), some (.inl v7)], [.inl (m14 87 0 w5.toNatClampNeg), .inl r13, .inl v2], m14)) rfl hres (fun hc hres => ?_)
            refine e_steps 3 (s' := (93, [some (.inr (.inr (some (12, 0)))), some (.inl a1), some (.inl a2), some (.inl a3), none, some (.inl a5), some (.inl a6), some (.inl (v2 - (r13 + (m14 87 0 w5.toNatClampNeg)))), some (.inl v3), some (.inl w5), some (.inl v7)], [], m14)) rfl ?_
            refine e_let (fun (v15 : Int32) => (93, [some (.inr (.inr (some (12, 0)))), some (.inl a1), some (.inl a2), some (.inl a3), none, some (.inl a5), some (.inl a6), some (.inl v15), some (.inl v3), some (.inl w5), some (.inl v7)], [], m14)) hres (fun v15 hres => ?_)
            refine e_steps 1 (s' := (149, [some (.inr (.inr (some (12, 0)))), some (.inl a1), some (.inl a2), some (.inl a3), none, some (.inl a5), some (.inl a6), some (.inl v15), some (.inl v3), some (.inl w5), some (.inl v7)], [], m14)) rfl ?_
            refine e_mask (L' := [some (.inr (.inr (some (12, 0)))), some (.inl a1), some (.inl a2), some (.inl a3), none, some (.inl a5), some (.inl a6), some (.inl v15), some (.inl v3), none, none]) rfl ?_
            refine e_steps 1 (s' := (152, [some (.inr (.inr (some (12, 0)))), some (.inl a1), some (.inl a2), some (.inl a3), none, some (.inl a5), some (.inl a6), some (.inl v15), some (.inl (v3 + 1)), none, none], [], m14)) rfl ?_
            refine e_let (fun (v16 : Int32) => (152, [some (.inr (.inr (some (12, 0)))), some (.inl a1), some (.inl a2), some (.inl a3), none, some (.inl a5), some (.inl a6), some (.inl v15), some (.inl v16), none, none], [], m14)) hres (fun v16 hres => ?_)
            refine e_steps 1 (s' := (7, [some (.inr (.inr (some (12, 0)))), some (.inl a1), some (.inl a2), some (.inl a3), none, some (.inl a5), some (.inl a6), some (.inl v15), some (.inl v16), none, none], [], m14)) rfl ?_
            obtain rfl := Option.some.inj hres
            exact e_mask (L' := [some (.inr (.inr (some (12, 0)))), some (.inl a1), some (.inl a2), some (.inl a3), none, some (.inl a5), some (.inl a6), some (.inl v15), some (.inl v16), none, none]) rfl (hcl1 _ rfl)
        · obtain rfl := Option.some.inj hres
          exact e_mask (L' := [none, none, none, none, none, none, none, none, none, none, none]) rfl (hxl1 _ rfl)
      · refine e_if (s1 := (32, [some (.inr (.inr (some (12, 0)))), some (.inl a1), some (.inl a2), some (.inl a3), none, some (.inl a5), some (.inl a6), some (.inl v2), some (.inl v3), none, none], [], m4)) (s2 := (18, [some (.inr (.inr (some (12, 0)))), some (.inl a1), some (.inl a2), some (.inl a3), none, some (.inl a5), some (.inl a6), some (.inl v2), some (.inl v3), none, none], [], m4)) rfl hres (fun hc hres => ?_) (fun hc hres => ?_)
        · refine e_steps 1 (s' := (34, [some (.inr (.inr (some (12, 0)))), some (.inl a1), some (.inl a2), some (.inl a3), none, some (.inl a5), some (.inl a6), some (.inl v2), some (.inl v3), none, none], [.inl v3], m4)) rfl ?_
          exact e_mask (L' := [some (.inr (.inr (some (12, 0)))), some (.inl a1), some (.inl a2), some (.inl a3), none, some (.inl a5), some (.inl a6), some (.inl v2), some (.inl v3), none, none]) rfl (hk6 _ hres)
        · refine e_steps 3 (s' := (23, [some (.inr (.inr (some (12, 0)))), some (.inl a1), some (.inl a2), some (.inl a3), none, some (.inl a5), some (.inl a6), some (.inl v2), some (.inl v3), none, none], [.inl a1, .inr (.inr (some (67, 0)))], m4)) rfl ?_
          refine e_gd (s1 := (24, [some (.inr (.inr (some (12, 0)))), some (.inl a1), some (.inl a2), some (.inl a3), none, some (.inl a5), some (.inl a6), some (.inl v2), some (.inl v3), none, none], [.inl (m4 67 0 a1.toNatClampNeg)], m4)) rfl hres (fun hc hres => ?_)
          refine e_steps 5 (s' := (34, [some (.inr (.inr (some (12, 0)))), some (.inl a1), some (.inl a2), some (.inl a3), none, some (.inl a5), some (.inl a6), some (.inl v2), some (.inl v3), none, none], [.inl (((m4 67 0 a1.toNatClampNeg) - 1) - v3)], m4)) rfl ?_
          exact e_mask (L' := [some (.inr (.inr (some (12, 0)))), some (.inl a1), some (.inl a2), some (.inl a3), none, some (.inl a5), some (.inl a6), some (.inl v2), some (.inl v3), none, none]) rfl (hk6 _ hres)
/-- GlassThreadsModel.isDark(IIZ)Z -/
def f_X12_isDark (a1 : Int32) (a2 : Int32) (a3 : Int32) (m : mm_M) : Option (Int32) :=
(mm_b1 (mm_loop (σ := Int32) (ρ := (Unit) ⊕ (Unit)) (fun (v2 : Int32) => (if a2 ≤ v2 then (some (.inr (.inr ())))
else (mm_let (fun (w3 : Int32) => (if mm_in w3 24 then (
if (m 88 0 w3.toNatClampNeg) = (-1) then (mm_let (v2 + 1) fun v5 =>
some (.inl v5))
else (some (.inr (.inl ())))) else none : Option ((Int32) ⊕ ((Unit) ⊕ (Unit))))) fun k4 =>
if a3 = 0 then (k4 v2)
else (if mm_in a1 9 then (
k4 (((m 67 0 a1.toNatClampNeg) - 1) - v2)) else none)) : Option ((Int32) ⊕ ((Unit) ⊕ (Unit))))) mm_fu 0) fun t => match t with
| .inl _ => some 1
| .inr _ => some 0)
set_option maxHeartbeats 4000000 in
set_option maxRecDepth 100000 in
theorem k_X12_isDark (d : Nat) (hd : 0 ≤ d) (a1 : Int32) (a2 : Int32) (a3 : Int32) (m : mm_M) (r : Int32) (hres : f_X12_isDark a1 a2 a3 m = some r) : mm_X d 202 [.inr (.inr (some (12, 0))), .inl a1, .inl a2, .inl a3] m (.inl (some (.inl r)), m, 0, 0) := by
  unfold f_X12_isDark at hres
  show mm_E d 202 (0, [some (.inr (.inr (some (12, 0)))), some (.inl a1), some (.inl a2), some (.inl a3), none], [], m) (.inl (some (.inl r)), m, 0, 0)
  refine e_steps 2 (s' := (3, [some (.inr (.inr (some (12, 0)))), some (.inl a1), some (.inl a2), some (.inl a3), some (.inl 0)], [], m)) rfl ?_
  refine e_mask (L' := [some (.inr (.inr (some (12, 0)))), some (.inl a1), some (.inl a2), some (.inl a3), some (.inl 0)]) rfl ?_
  refine e_loopb (φ := fun s => (3, [some (.inr (.inr (some (12, 0)))), some (.inl a1), some (.inl a2), some (.inl a3), some (.inl s)], [], m)) (K := fun t => match t with | .inl t => mm_E d 202 (38, [none, none, none, none, none], [], m) (.inl (some (.inl r)), m, 0, 0) | .inr t => mm_E d 202 (46, [none, none, none, none, none], [], m) (.inl (some (.inl r)), m, 0, 0)) hres (fun t hres => ?_) (fun v2 ol1 hres hcl1 hxl1 => ?_)
  · rcases t with _ | _
    · show mm_E d 202 (38, [none, none, none, none, none], [], m) (.inl (some (.inl r)), m, 0, 0)
      refine e_steps 1 (s' := (39, [none, none, none, none, none], [.inl 1], m)) rfl ?_
      obtain rfl := Option.some.inj hres
      exact e_ret rfl rfl
    · show mm_E d 202 (46, [none, none, none, none, none], [], m) (.inl (some (.inl r)), m, 0, 0)
      refine e_steps 1 (s' := (47, [none, none, none, none, none], [.inl 0], m)) rfl ?_
      obtain rfl := Option.some.inj hres
      exact e_ret rfl rfl
  · show mm_E d 202 (3, [some (.inr (.inr (some (12, 0)))), some (.inl a1), some (.inl a2), some (.inl a3), some (.inl v2)], [], m) (.inl (some (.inl r)), m, 0, 0)
    refine e_steps 2 (s' := (6, [some (.inr (.inr (some (12, 0)))), some (.inl a1), some (.inl a2), some (.inl a3), some (.inl v2)], [.inl a2, .inl v2], m)) rfl ?_
    refine e_if (s1 := (46, [some (.inr (.inr (some (12, 0)))), some (.inl a1), some (.inl a2), some (.inl a3), some (.inl v2)], [], m)) (s2 := (9, [some (.inr (.inr (some (12, 0)))), some (.inl a1), some (.inl a2), some (.inl a3), some (.inl v2)], [], m)) rfl hres (fun hc hres => ?_) (fun hc hres => ?_)
    · obtain rfl := Option.some.inj hres
      exact e_mask (L' := [none, none, none, none, none]) rfl (hxl1 _ rfl)
    · refine e_steps 3 (s' := (14, [some (.inr (.inr (some (12, 0)))), some (.inl a1), some (.inl a2), some (.inl a3), some (.inl v2)], [.inl a3, .inr (.inr (some (88, 0)))], m)) rfl ?_
      refine e_join (fun k4 => ∀ (w3 : Int32), k4 w3 = some ol1 → mm_E d 202 (33, [some (.inr (.inr (some (12, 0)))), some (.inl a1), some (.inl a2), some (.inl a3), some (.inl v2)], [.inl w3, .inr (.inr (some (88, 0)))], m) (.inl (some (.inl r)), m, 0, 0)) hres (fun w3 hres => ?_) (fun k4 hk4 hres => ?_)
      · refine e_gd (s1 := (34, [some (.inr (.inr (some (12, 0)))), some (.inl a1), some (.inl a2), some (.inl a3), some (.inl v2)], [.inl (m 88 0 w3.toNatClampNeg)], m)) rfl hres (fun hc hres => ?_)
        refine e_steps 1 (s' := (35, [some (.inr (.inr (some (12, 0)))), some (.inl a1), some (.inl a2), some (.inl a3), some (.inl v2)], [.inl (-1), .inl (m 88 0 w3.toNatClampNeg)], m)) rfl ?_
        refine e_if (s1 := (40, [some (.inr (.inr (some (12, 0)))), some (.inl a1), some (.inl a2), some (.inl a3), some (.inl v2)], [], m)) (s2 := (38, [some (.inr (.inr (some (12, 0)))), some (.inl a1), some (.inl a2), some (.inl a3), some (.inl v2)], [], m)) rfl hres (fun hc hres => ?_) (fun hc hres => ?_)
        · refine e_steps 1 (s' := (43, [some (.inr (.inr (some (12, 0)))), some (.inl a1), some (.inl a2), some (.inl a3), some (.inl (v2 + 1))], [], m)) rfl ?_
          refine e_let (fun (v5 : Int32) => (43, [some (.inr (.inr (some (12, 0)))), some (.inl a1), some (.inl a2), some (.inl a3), some (.inl v5)], [], m)) hres (fun v5 hres => ?_)
          refine e_steps 1 (s' := (3, [some (.inr (.inr (some (12, 0)))), some (.inl a1), some (.inl a2), some (.inl a3), some (.inl v5)], [], m)) rfl ?_
          obtain rfl := Option.some.inj hres
          exact e_mask (L' := [some (.inr (.inr (some (12, 0)))), some (.inl a1), some (.inl a2), some (.inl a3), some (.inl v5)]) rfl (hcl1 _ rfl)
        · obtain rfl := Option.some.inj hres
          exact e_mask (L' := [none, none, none, none, none]) rfl (hxl1 _ rfl)
      · refine e_if (s1 := (31, [some (.inr (.inr (some (12, 0)))), some (.inl a1), some (.inl a2), some (.inl a3), some (.inl v2)], [.inr (.inr (some (88, 0)))], m)) (s2 := (17, [some (.inr (.inr (some (12, 0)))), some (.inl a1), some (.inl a2), some (.inl a3), some (.inl v2)], [.inr (.inr (some (88, 0)))], m)) rfl hres (fun hc hres => ?_) (fun hc hres => ?_)
        · refine e_steps 1 (s' := (33, [some (.inr (.inr (some (12, 0)))), some (.inl a1), some (.inl a2), some (.inl a3), some (.inl v2)], [.inl v2, .inr (.inr (some (88, 0)))], m)) rfl ?_
          exact e_mask (L' := [some (.inr (.inr (some (12, 0)))), some (.inl a1), some (.inl a2), some (.inl a3), some (.inl v2)]) rfl (hk4 _ hres)
        · refine e_steps 3 (s' := (22, [some (.inr (.inr (some (12, 0)))), some (.inl a1), some (.inl a2), some (.inl a3), some (.inl v2)], [.inl a1, .inr (.inr (some (67, 0))), .inr (.inr (some (88, 0)))], m)) rfl ?_
          refine e_gd (s1 := (23, [some (.inr (.inr (some (12, 0)))), some (.inl a1), some (.inl a2), some (.inl a3), some (.inl v2)], [.inl (m 67 0 a1.toNatClampNeg), .inr (.inr (some (88, 0)))], m)) rfl hres (fun hc hres => ?_)
          refine e_steps 5 (s' := (33, [some (.inr (.inr (some (12, 0)))), some (.inl a1), some (.inl a2), some (.inl a3), some (.inl v2)], [.inl (((m 67 0 a1.toNatClampNeg) - 1) - v2), .inr (.inr (some (88, 0)))], m)) rfl ?_
          exact e_mask (L' := [some (.inr (.inr (some (12, 0)))), some (.inl a1), some (.inl a2), some (.inl a3), some (.inl v2)]) rfl (hk4 _ hres)
