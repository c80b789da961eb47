/-- java/util/Arrays.fill([II)V -/
def f_J_fill_g21 (i0 : Nat) (a1 : Int32) (m : mm_M) : Option (mm_M) :=
(mm_b1 (mm_loop (σ := Int32 × mm_M) (ρ := (mm_M)) (fun (s : Int32 × mm_M) => match s with
| (v2, m3) => (if 4 ≤ v2 then (some (.inr m3))
else (if mm_in v2 4 then (
mm_let (mm_w m3 21 i0 v2.toNatClampNeg a1) fun m4 =>
mm_let (v2 + 1) fun v5 =>
some (.inl (v5, m4))) else none) : Option ((Int32 × mm_M) ⊕ ((mm_M))))) mm_fu (0, m)) fun m6 =>
some m6)
set_option maxHeartbeats 4000000 in
set_option maxRecDepth 100000 in
theorem k_J_fill_g21 (d : Nat) (hd : 0 ≤ d) (i0 : Nat) (a1 : Int32) (m : mm_M) (r : mm_M) (hres : f_J_fill_g21 i0 a1 m = some r) : mm_X d 291 [.inr (.inr (some (21, i0))), .inl a1] m (.inl none, r, 0, 0) := by
  unfold f_J_fill_g21 at hres
  show mm_E d 291 (0, [some (.inr (.inr (some (21, i0)))), some (.inl a1), none, none], [], m) (.inl none, r, 0, 0)
  refine e_steps 5 (s' := (5, [some (.inr (.inr (some (21, i0)))), some (.inl a1), some (.inl 0), some (.inl 4)], [], m)) rfl ?_
  refine e_mask (L' := [some (.inr (.inr (some (21, i0)))), some (.inl a1), some (.inl 0), some (.inl 4)]) rfl ?_
  refine e_loopb (φ := fun s => (5, [some (.inr (.inr (some (21, i0)))), some (.inl a1), some (.inl s.1), some (.inl 4)], [], s.2)) (K := fun t => mm_E d 291 (20, [none, none, none, none], [], t) (.inl none, r, 0, 0)) hres (fun m6 hres => ?_) (fun s ol1 hres hcl1 hxl1 => ?_)
  · show mm_E d 291 (20, [none, none, none, none], [], m6) (.inl none, r, 0, 0)
    obtain rfl := Option.some.inj hres
    exact e_ret rfl rfl
  · obtain ⟨v2, m3⟩ := s
    show mm_E d 291 (5, [some (.inr (.inr (some (21, i0)))), some (.inl a1), some (.inl v2), some (.inl 4)], [], m3) (.inl none, r, 0, 0)
    refine e_steps 2 (s' := (7, [some (.inr (.inr (some (21, i0)))), some (.inl a1), some (.inl v2), some (.inl 4)], [.inl 4, .inl v2], m3)) rfl ?_
    refine e_if (s1 := (20, [some (.inr (.inr (some (21, i0)))), some (.inl a1), some (.inl v2), some (.inl 4)], [], m3)) (s2 := (10, [some (.inr (.inr (some (21, i0)))), some (.inl a1), some (.inl v2), some (.inl 4)], [], m3)) rfl hres (fun hc hres => ?_) (fun hc hres => ?_)
    · obtain rfl := Option.some.inj hres
      exact e_mask (L' := [none, none, none, none]) rfl (hxl1 _ rfl)
    · refine e_steps 3 (s' := (13, [some (.inr (.inr (some (21, i0)))), some (.inl a1), some (.inl v2), some (.inl 4)], [.inl a1, .inl v2, .inr (.inr (some (21, i0)))], m3)) rfl ?_
      refine e_gd (s1 := (14, [some (.inr (.inr (some (21, i0)))), some (.inl a1), some (.inl v2), some (.inl 4)], [], (mm_w m3 21 i0 v2.toNatClampNeg a1))) rfl hres (fun hc hres => ?_)
      refine e_let (fun (m4 : mm_M) => (14, [some (.inr (.inr (some (21, i0)))), some (.inl a1), some (.inl v2), some (.inl 4)], [], m4)) hres (fun m4 hres => ?_)
      refine e_steps 1 (s' := (17, [some (.inr (.inr (some (21, i0)))), some (.inl a1), some (.inl (v2 + 1)), some (.inl 4)], [], m4)) rfl ?_
      refine e_let (fun (v5 : Int32) => (17, [some (.inr (.inr (some (21, i0)))), some (.inl a1), some (.inl v5), some (.inl 4)], [], m4)) hres (fun v5 hres => ?_)
      refine e_steps 1 (s' := (5, [some (.inr (.inr (some (21, i0)))), some (.inl a1), some (.inl v5), some (.inl 4)], [], m4)) rfl ?_
      obtain rfl := Option.some.inj hres
      exact e_mask (L' := [some (.inr (.inr (some (21, i0)))), some (.inl a1), some (.inl v5), some (.inl 4)]) rfl (hcl1 _ rfl)
/-- GlassThreads$Law.clauseKind(I)I -/
def f_X3_clauseKind (a0 : Int32) (m : mm_M) : Option (Int32) :=
if a0 ≠ 260 then (if a0 < 256 then (some (-1))
else (if 258 < a0 then (some (-1))
else (some (a0 - 256))))
else (some 3)
set_option maxHeartbeats 4000000 in
set_option maxRecDepth 100000 in
theorem k_X3_clauseKind (d : Nat) (hd : 0 ≤ d) (a0 : Int32) (m : mm_M) (r : Int32) (hres : f_X3_clauseKind a0 m = some r) : mm_X d 84 [.inl a0] m (.inl (some (.inl r)), m, 0, 0) := by
  unfold f_X3_clauseKind at hres
  show mm_E d 84 (0, [some (.inl a0)], [], m) (.inl (some (.inl r)), m, 0, 0)
  refine e_steps 2 (s' := (4, [some (.inl a0)], [.inl 260, .inl a0], m)) rfl ?_
  refine e_if (s1 := (9, [some (.inl a0)], [], m)) (s2 := (7, [some (.inl a0)], [], m)) rfl hres (fun hc hres => ?_) (fun hc hres => ?_)
  · refine e_steps 2 (s' := (13, [some (.inl a0)], [.inl 256, .inl a0], m)) rfl ?_
    refine e_if (s1 := (31, [some (.inl a0)], [], m)) (s2 := (16, [some (.inl a0)], [], m)) rfl hres (fun hc hres => ?_) (fun hc hres => ?_)
    · refine e_mask (L' := [none]) rfl ?_
      refine e_steps 1 (s' := (32, [none], [.inl (-1)], m)) rfl ?_
      obtain rfl := Option.some.inj hres
      exact e_ret rfl rfl
    · refine e_steps 2 (s' := (20, [some (.inl a0)], [.inl 258, .inl a0], m)) rfl ?_
      refine e_if (s1 := (31, [some (.inl a0)], [], m)) (s2 := (23, [some (.inl a0)], [], m)) rfl hres (fun hc hres => ?_) (fun hc hres => ?_)
      · refine e_mask (L' := [none]) rfl ?_
        refine e_steps 1 (s' := (32, [none], [.inl (-1)], m)) rfl ?_
        obtain rfl := Option.some.inj hres
        exact e_ret rfl rfl
      · refine e_steps 4 (s' := (32, [some (.inl a0)], [.inl (a0 - 256)], m)) rfl ?_
        refine e_mask (L' := [none]) rfl ?_
        obtain rfl := Option.some.inj hres
        exact e_ret rfl rfl
  · refine e_steps 1 (s' := (8, [some (.inl a0)], [.inl 3], m)) rfl ?_
    obtain rfl := Option.some.inj hres
    exact e_ret rfl rfl
/-- GlassThreads$Law.levelOf(I)I -/
def f_X3_levelOf (a0 : Int32) (m : mm_M) : Option (Int32) :=
if a0 = 42 then (some 5)
else if a0 = 43 then (some 4)
else if a0 = 45 then (some 4)
else if a0 = 47 then (some 5)
else if a0 = 60 then (some 3)
else if a0 = 61 then (some 3)
else if a0 = 261 then (some 0)
else if a0 = 262 then (some 1)
else (some (-1))
set_option maxHeartbeats 4000000 in
set_option maxRecDepth 100000 in
theorem k_X3_levelOf (d : Nat) (hd : 0 ≤ d) (a0 : Int32) (m : mm_M) (r : Int32) (hres : f_X3_levelOf a0 m = some r) : mm_X d 83 [.inl a0] m (.inl (some (.inl r)), m, 0, 0) := by
  unfold f_X3_levelOf at hres
  show mm_E d 83 (0, [some (.inl a0)], [], m) (.inl (some (.inl r)), m, 0, 0)
  refine e_steps 1 (s' := (1, [some (.inl a0)], [.inl a0], m)) rfl ?_
  refine e_sw (c := a0 = 42) (s1 := (84, [some (.inl a0)], [], m)) rfl hres (fun hc hres => ?_) (fun hc hres hst => ?_)
  · refine e_steps 1 (s' := (85, [some (.inl a0)], [.inl 5], m)) rfl ?_
    obtain rfl := Option.some.inj hres
    exact e_ret rfl rfl
  · refine e_sw (c := a0 = 43) (s1 := (82, [some (.inl a0)], [], m)) hst hres (fun hc hres => ?_) (fun hc hres hst => ?_)
    · refine e_steps 1 (s' := (83, [some (.inl a0)], [.inl 4], m)) rfl ?_
      obtain rfl := Option.some.inj hres
      exact e_ret rfl rfl
    · refine e_sw (c := a0 = 45) (s1 := (82, [some (.inl a0)], [], m)) hst hres (fun hc hres => ?_) (fun hc hres hst => ?_)
      · refine e_steps 1 (s' := (83, [some (.inl a0)], [.inl 4], m)) rfl ?_
        obtain rfl := Option.some.inj hres
        exact e_ret rfl rfl
      · refine e_sw (c := a0 = 47) (s1 := (84, [some (.inl a0)], [], m)) hst hres (fun hc hres => ?_) (fun hc hres hst => ?_)
        · refine e_steps 1 (s' := (85, [some (.inl a0)], [.inl 5], m)) rfl ?_
          obtain rfl := Option.some.inj hres
          exact e_ret rfl rfl
        · refine e_sw (c := a0 = 60) (s1 := (80, [some (.inl a0)], [], m)) hst hres (fun hc hres => ?_) (fun hc hres hst => ?_)
          · refine e_steps 1 (s' := (81, [some (.inl a0)], [.inl 3], m)) rfl ?_
            obtain rfl := Option.some.inj hres
            exact e_ret rfl rfl
          · refine e_sw (c := a0 = 61) (s1 := (80, [some (.inl a0)], [], m)) hst hres (fun hc hres => ?_) (fun hc hres hst => ?_)
            · refine e_steps 1 (s' := (81, [some (.inl a0)], [.inl 3], m)) rfl ?_
              obtain rfl := Option.some.inj hres
              exact e_ret rfl rfl
            · refine e_sw (c := a0 = 261) (s1 := (76, [some (.inl a0)], [], m)) hst hres (fun hc hres => ?_) (fun hc hres hst => ?_)
              · refine e_steps 1 (s' := (77, [some (.inl a0)], [.inl 0], m)) rfl ?_
                obtain rfl := Option.some.inj hres
                exact e_ret rfl rfl
              · refine e_sw (c := a0 = 262) (s1 := (78, [some (.inl a0)], [], m)) hst hres (fun hc hres => ?_) (fun hc hres hst => ?_)
                · refine e_steps 1 (s' := (79, [some (.inl a0)], [.inl 1], m)) rfl ?_
                  obtain rfl := Option.some.inj hres
                  exact e_ret rfl rfl
                · refine e_step (s' := (86, [some (.inl a0)], [], m)) hst ?_
                  refine e_steps 1 (s' := (87, [some (.inl a0)], [.inl (-1)], m)) rfl ?_
                  obtain rfl := Option.some.inj hres
                  exact e_ret rfl rfl
/-- GlassThreads$Law.put(II)Z -/
def f_X3_put (i0 : Nat) (a1 : Int32) (a2 : Int32) (m : mm_M) : Option (Int32 × mm_M) :=
if (m 2 i0 2) < 400 then (if mm_in (m 2 i0 2) 400 then (
mm_let (mm_w m 19 i0 ((m 2 i0 2).toNatClampNeg) a1) fun m1 =>
if mm_in (m1 2 i0 2) 400 then (
mm_let (mm_w m1 20 i0 ((m1 2 i0 2).toNatClampNeg) a2) fun m2 =>
mm_let (mm_w m2 2 i0 2 ((m2 2 i0 2) + 1)) fun m3 =>
some (1, m3)) else none) else none)
else (some (0, m))
set_option maxHeartbeats 4000000 in
set_option maxRecDepth 100000 in
theorem k_X3_put (d : Nat) (hd : 0 ≤ d) (i0 : Nat) (a1 : Int32) (a2 : Int32) (m : mm_M) (r : Int32 × mm_M) (hres : f_X3_put i0 a1 a2 m = some r) : mm_X d 79 [.inr (.inr (some (2, i0))), .inl a1, .inl a2] m (.inl (some (.inl r.1)), r.2, 0, 0) := by
  unfold f_X3_put at hres
  show mm_E d 79 (0, [some (.inr (.inr (some (2, i0)))), some (.inl a1), some (.inl a2)], [], m) (.inl (some (.inl r.1)), r.2, 0, 0)
  refine e_steps 5 (s' := (9, [some (.inr (.inr (some (2, i0)))), some (.inl a1), some (.inl a2)], [.inl 400, .inl (m 2 i0 2)], m)) rfl ?_
  refine e_if (s1 := (14, [some (.inr (.inr (some (2, i0)))), some (.inl a1), some (.inl a2)], [], m)) (s2 := (12, [some (.inr (.inr (some (2, i0)))), some (.inl a1), some (.inl a2)], [], m)) rfl hres (fun hc hres => ?_) (fun hc hres => ?_)
  · refine e_steps 5 (s' := (23, [some (.inr (.inr (some (2, i0)))), some (.inl a1), some (.inl a2)], [.inl a1, .inl (m 2 i0 2), .inr (.inr (some (19, i0)))], m)) rfl ?_
    refine e_gd (s1 := (24, [some (.inr (.inr (some (2, i0)))), some (.inl a1), some (.inl a2)], [], (mm_w m 19 i0 ((m 2 i0 2).toNatClampNeg) a1))) rfl hres (fun hc hres => ?_)
    refine e_let (fun (m1 : mm_M) => (24, [some (.inr (.inr (some (2, i0)))), some (.inl a1), some (.inl a2)], [], m1)) hres (fun m1 hres => ?_)
    refine e_steps 5 (s' := (33, [some (.inr (.inr (some (2, i0)))), some (.inl a1), some (.inl a2)], [.inl a2, .inl (m1 2 i0 2), .inr (.inr (some (20, i0)))], m1)) rfl ?_
    refine e_gd (s1 := (34, [some (.inr (.inr (some (2, i0)))), some (.inl a1), some (.inl a2)], [], (mm_w m1 20 i0 ((m1 2 i0 2).toNatClampNeg) a2))) rfl hres (fun hc hres => ?_)
    refine e_let (fun (m2 : mm_M) => (34, [some (.inr (.inr (some (2, i0)))), some (.inl a1), some (.inl a2)], [], m2)) hres (fun m2 hres => ?_)
    refine e_steps 6 (s' := (44, [some (.inr (.inr (some (2, i0)))), some (.inl a1), some (.inl a2)], [], (mm_w m2 2 i0 2 ((m2 2 i0 2) + 1)))) rfl ?_
    refine e_let (fun (m3 : mm_M) => (44, [some (.inr (.inr (some (2, i0)))), some (.inl a1), some (.inl a2)], [], m3)) hres (fun m3 hres => ?_)
    refine e_steps 1 (s' := (45, [some (.inr (.inr (some (2, i0)))), some (.inl a1), some (.inl a2)], [.inl 1], m3)) rfl ?_
    obtain rfl := Option.some.inj hres
    exact e_ret rfl rfl
  · refine e_steps 1 (s' := (13, [some (.inr (.inr (some (2, i0)))), some (.inl a1), some (.inl a2)], [.inl 0], m)) rfl ?_
    obtain rfl := Option.some.inj hres
    exact e_ret rfl rfl
/-- GlassThreads$Law.isValue(I)Z -/
def f_X3_isValue (a0 : Int32) (m : mm_M) : Option (Int32) :=
if a0 < 264 then (some 0)
else (if 268 < a0 then (some 0)
else (some 1))
set_option maxHeartbeats 4000000 in
set_option maxRecDepth 100000 in
theorem k_X3_isValue (d : Nat) (hd : 0 ≤ d) (a0 : Int32) (m : mm_M) (r : Int32) (hres : f_X3_isValue a0 m = some r) : mm_X d 87 [.inl a0] m (.inl (some (.inl r)), m, 0, 0) := by
  unfold f_X3_isValue at hres
  show mm_E d 87 (0, [some (.inl a0)], [], m) (.inl (some (.inl r)), m, 0, 0)
  refine e_steps 2 (s' := (4, [some (.inl a0)], [.inl 264, .inl a0], m)) rfl ?_
  refine e_if (s1 := (18, [some (.inl a0)], [], m)) (s2 := (7, [some (.inl a0)], [], m)) rfl hres (fun hc hres => ?_) (fun hc hres => ?_)
  · refine e_mask (L' := [none]) rfl ?_
    refine e_steps 1 (s' := (19, [none], [.inl 0], m)) rfl ?_
    obtain rfl := Option.some.inj hres
    exact e_ret rfl rfl
  · refine e_steps 2 (s' := (11, [some (.inl a0)], [.inl 268, .inl a0], m)) rfl ?_
    refine e_if (s1 := (18, [some (.inl a0)], [], m)) (s2 := (14, [some (.inl a0)], [], m)) rfl hres (fun hc hres => ?_) (fun hc hres => ?_)
    · refine e_mask (L' := [none]) rfl ?_
      refine e_steps 1 (s' := (19, [none], [.inl 0], m)) rfl ?_
      obtain rfl := Option.some.inj hres
      exact e_ret rfl rfl
    · refine e_steps 2 (s' := (19, [some (.inl a0)], [.inl 1], m)) rfl ?_
      refine e_mask (L' := [none]) rfl ?_
      obtain rfl := Option.some.inj hres
      exact e_ret rfl rfl
/-- GlassThreads$Law.canBegin(I)Z -/
def f_X3_canBegin (a0 : Int32) (m : mm_M) : Option (Int32) :=
if a0 = 2 then (some 1)
else (if a0 = 40 then (some 1)
else (mm_b1 (f_X9_isWord a0 m) fun r1 =>
if r1 = 0 then (some 0)
else (some 1)))
set_option maxHeartbeats 4000000 in
set_option maxRecDepth 100000 in
theorem k_X3_canBegin (d : Nat) (hd : 1 ≤ d) (a0 : Int32) (m : mm_M) (r : Int32) (hres : f_X3_canBegin a0 m = some r) : mm_X d 86 [.inl a0] m (.inl (some (.inl r)), m, 0, 0) := by
  unfold f_X3_canBegin at hres
  obtain ⟨d, rfl⟩ : ∃ e, d = e + 1 := ⟨d - 1, by omega⟩
  show mm_E (d + 1) 86 (0, [some (.inl a0)], [], m) (.inl (some (.inl r)), m, 0, 0)
  refine e_steps 2 (s' := (2, [some (.inl a0)], [.inl 2, .inl a0], m)) rfl ?_
  refine e_if (s1 := (18, [some (.inl a0)], [], m)) (s2 := (5, [some (.inl a0)], [], m)) rfl hres (fun hc hres => ?_) (fun hc hres => ?_)
  · refine e_mask (L' := [none]) rfl ?_
    refine e_steps 2 (s' := (23, [none], [.inl 1], m)) rfl ?_
    obtain rfl := Option.some.inj hres
    exact e_ret rfl rfl
  · refine e_steps 2 (s' := (8, [some (.inl a0)], [.inl 40, .inl a0], m)) rfl ?_
    refine e_if (s1 := (18, [some (.inl a0)], [], m)) (s2 := (11, [some (.inl a0)], [], m)) rfl hres (fun hc hres => ?_) (fun hc hres => ?_)
    · refine e_mask (L' := [none]) rfl ?_
      refine e_steps 2 (s' := (23, [none], [.inl 1], m)) rfl ?_
      obtain rfl := Option.some.inj hres
      exact e_ret rfl rfl
    · refine e_steps 1 (s' := (12, [some (.inl a0)], [.inl a0], m)) rfl ?_
      obtain ⟨r1, hv, hres⟩ := mm_b1_some hres
      refine e_call0 (pc := 15) (L := [some (.inl a0)]) (st := []) (m' := m) (v := some (.inl r1)) rfl (k_X9_isWord d (by omega) a0 _ _ hv) ?_
      show mm_E (d + 1) 86 (15, [some (.inl a0)], [.inl r1], m) (.inl (some (.inl r)), m, 0, 0)
      refine e_if (s1 := (22, [some (.inl a0)], [], m)) (s2 := (18, [some (.inl a0)], [], m)) rfl hres (fun hc hres => ?_) (fun hc hres => ?_)
      · refine e_steps 1 (s' := (23, [some (.inl a0)], [.inl 0], m)) rfl ?_
        refine e_mask (L' := [none]) rfl ?_
        obtain rfl := Option.some.inj hres
        exact e_ret rfl rfl
      · refine e_mask (L' := [none]) rfl ?_
        refine e_steps 2 (s' := (23, [none], [.inl 1], m)) rfl ?_
        obtain rfl := Option.some.inj hres
        exact e_ret rfl rfl
/-- GlassThreads$Law.readExpression(LGlassThreads$Tape;I)Z -/
def f_X3_readExpression (RF : Nat → Int32 → Int32 → mm_M → Option (Int32 × mm_M)) (i0 : Nat) (a2 : Int32) (m : mm_M) : Option (Int32 × mm_M) :=
if a2 < 6 then (mm_b2 (RF i0 0 a2 m) fun r1 m2 =>
if r1 = 0 ∨ r1 = 1 then some (r1, m2) else none)
else (mm_b1 (f_X3_canBegin (m 1 0 7) m) fun r3 =>
if r3 = 0 then (mm_b2 (f_X9_refuse 1 m) fun r4 m5 =>
if r4 = 0 ∨ r4 = 1 then some (r4, m5) else none)
else (mm_b2 (f_X9_refuse 2 m) fun r6 m7 =>
if r6 = 0 ∨ r6 = 1 then some (r6, m7) else none))
set_option maxHeartbeats 4000000 in
set_option maxRecDepth 100000 in
theorem k_X3_readExpression (RF : Nat → Int32 → Int32 → mm_M → Option (Int32 × mm_M)) (e0 : Nat) (hRF : ∀ (i0 : Nat) (a2 : Int32) (a3 : Int32) (m : mm_M) (r : Int32 × mm_M), RF i0 a2 a3 m = some r → ∀ d, e0 ≤ d → mm_X d 76 [.inr (.inr (some (2, i0))), .inr (.inr (some (1, 0))), .inl a2, .inl a3] m (.inl (some (.inl r.1)), r.2, 0, 0)) (hB : 1 ≤ e0) (d : Nat) (hd : e0 + 1 ≤ d) (i0 : Nat) (a2 : Int32) (m : mm_M) (r : Int32 × mm_M) (hres : f_X3_readExpression RF i0 a2 m = some r) : mm_X d 75 [.inr (.inr (some (2, i0))), .inr (.inr (some (1, 0))), .inl a2] m (.inl (some (.inl r.1)), r.2, 0, 0) := by
  unfold f_X3_readExpression at hres
  obtain ⟨d, rfl⟩ : ∃ e, d = e + 1 := ⟨d - 1, by omega⟩
  show mm_E (d + 1) 75 (0, [some (.inr (.inr (some (2, i0)))), some (.inr (.inr (some (1, 0)))), some (.inl a2)], [], m) (.inl (some (.inl r.1)), r.2, 0, 0)
  refine e_steps 2 (s' := (3, [some (.inr (.inr (some (2, i0)))), some (.inr (.inr (some (1, 0)))), some (.inl a2)], [.inl 6, .inl a2], m)) rfl ?_
  refine e_if (s1 := (26, [some (.inr (.inr (some (2, i0)))), some (.inr (.inr (some (1, 0)))), some (.inl a2)], [], m)) (s2 := (6, [some (.inr (.inr (some (2, i0)))), some (.inr (.inr (some (1, 0)))), some (.inl a2)], [], m)) rfl hres (fun hc hres => ?_) (fun hc hres => ?_)
  · refine e_steps 4 (s' := (30, [some (.inr (.inr (some (2, i0)))), some (.inr (.inr (some (1, 0)))), some (.inl a2)], [.inl a2, .inl 0, .inr (.inr (some (1, 0))), .inr (.inr (some (2, i0)))], m)) rfl ?_
    obtain ⟨r1, m2, hv, hres⟩ := mm_b2_some hres
    refine e_call0 (pc := 33) (L := [some (.inr (.inr (some (2, i0)))), some (.inr (.inr (some (1, 0)))), some (.inl a2)]) (st := []) (m' := m2) (v := some (.inl r1)) rfl (hRF i0 0 a2 _ _ hv d (by omega)) ?_
    show mm_E (d + 1) 75 (33, [some (.inr (.inr (some (2, i0)))), some (.inr (.inr (some (1, 0)))), some (.inl a2)], [.inl r1], m2) (.inl (some (.inl r.1)), r.2, 0, 0)
    refine e_gr (o := .inl (some (.inl r1))) rfl hres (fun hc hres => ?_)
    obtain rfl := Option.some.inj hres
    rfl
  · refine e_steps 3 (s' := (11, [some (.inr (.inr (some (2, i0)))), some (.inr (.inr (some (1, 0)))), some (.inl a2)], [.inl (m 1 0 7), .inr (.inr (some (1, 0)))], m)) rfl ?_
    obtain ⟨r3, hv, hres⟩ := mm_b1_some hres
    refine e_call0 (pc := 14) (L := [some (.inr (.inr (some (2, i0)))), some (.inr (.inr (some (1, 0)))), some (.inl a2)]) (st := [.inr (.inr (some (1, 0)))]) (m' := m) (v := some (.inl r3)) rfl (k_X3_canBegin d (by omega) (m 1 0 7) _ _ hv) ?_
    show mm_E (d + 1) 75 (14, [some (.inr (.inr (some (2, i0)))), some (.inr (.inr (some (1, 0)))), some (.inl a2)], [.inl r3, .inr (.inr (some (1, 0)))], m) (.inl (some (.inl r.1)), r.2, 0, 0)
    refine e_if (s1 := (21, [some (.inr (.inr (some (2, i0)))), some (.inr (.inr (some (1, 0)))), some (.inl a2)], [.inr (.inr (some (1, 0)))], m)) (s2 := (17, [some (.inr (.inr (some (2, i0)))), some (.inr (.inr (some (1, 0)))), some (.inl a2)], [.inr (.inr (some (1, 0)))], m)) rfl hres (fun hc hres => ?_) (fun hc hres => ?_)
    · refine e_steps 1 (s' := (22, [some (.inr (.inr (some (2, i0)))), some (.inr (.inr (some (1, 0)))), some (.inl a2)], [.inl 1, .inr (.inr (some (1, 0)))], m)) rfl ?_
      refine e_mask (L' := [none, none, none]) rfl ?_
      obtain ⟨r4, m5, hv, hres⟩ := mm_b2_some hres
      refine e_call0 (pc := 25) (L := [none, none, none]) (st := []) (m' := m5) (v := some (.inl r4)) rfl (k_X9_refuse d (by omega) 1 _ _ hv) ?_
      show mm_E (d + 1) 75 (25, [none, none, none], [.inl r4], m5) (.inl (some (.inl r.1)), r.2, 0, 0)
      refine e_gr (o := .inl (some (.inl r4))) rfl hres (fun hc hres => ?_)
      obtain rfl := Option.some.inj hres
      rfl
    · refine e_steps 2 (s' := (22, [some (.inr (.inr (some (2, i0)))), some (.inr (.inr (some (1, 0)))), some (.inl a2)], [.inl 2, .inr (.inr (some (1, 0)))], m)) rfl ?_
      refine e_mask (L' := [none, none, none]) rfl ?_
      obtain ⟨r6, m7, hv, hres⟩ := mm_b2_some hres
      refine e_call0 (pc := 25) (L := [none, none, none]) (st := []) (m' := m7) (v := some (.inl r6)) rfl (k_X9_refuse d (by omega) 2 _ _ hv) ?_
      show mm_E (d + 1) 75 (25, [none, none, none], [.inl r6], m7) (.inl (some (.inl r.1)), r.2, 0, 0)
      refine e_gr (o := .inl (some (.inl r6))) rfl hres (fun hc hres => ?_)
      obtain rfl := Option.some.inj hres
      rfl
/-- GlassThreads$Law.readPoint(LGlassThreads$Tape;I)Z -/
def f_X3_readPoint (RF : Nat → Int32 → Int32 → mm_M → Option (Int32 × mm_M)) (i0 : Nat) (a2 : Int32) (m : mm_M) : Option (Int32 × mm_M) :=
if (m 1 0 7) ≠ 40 then (mm_let ((mm_b2 (f_X3_put i0 (m 1 0 7) (m 1 0 8) m) fun r2 m3 =>
mm_b1 (f_X9_advance m3) fun m5 =>
if r2 = 0 ∨ r2 = 1 then some (r2, m5) else none : Option (Int32 × mm_M))) fun k1 =>
if (m 1 0 7) ≠ 2 then (mm_b1 (f_X3_isValue (m 1 0 7) m) fun r6 =>
if r6 ≠ 0 then (k1)
else (mm_b1 (f_X9_isWord (m 1 0 7) m) fun r7 =>
if r7 = 0 then (mm_b2 (f_X9_refuse 1 m) fun r8 m9 =>
if r8 = 0 ∨ r8 = 1 then some (r8, m9) else none)
else (mm_b2 (f_X9_refuse 3 m) fun r10 m11 =>
if r10 = 0 ∨ r10 = 1 then some (r10, m11) else none)))
else (mm_b1 (f_X9_isNumberIn 0 99999 m) fun r12 =>
if r12 ≠ 0 then (k1)
else (mm_b2 (f_X9_refuseNumber m) fun r13 m14 =>
if r13 = 0 ∨ r13 = 1 then some (r13, m14) else none)))
else (mm_b1 (f_X9_advance m) fun m16 =>
mm_b2 (f_X3_readExpression RF i0 (a2 + 1) m16) fun r17 m18 =>
if r17 = 0 then (some (0, m18))
else (mm_b2 (f_X9_passSign 41 m18) fun r19 m20 =>
if r19 = 0 then (some (0, m20))
else (some (1, m20))))
set_option maxHeartbeats 4000000 in
set_option maxRecDepth 100000 in
theorem k_X3_readPoint (RF : Nat → Int32 → Int32 → mm_M → Option (Int32 × mm_M)) (e0 : Nat) (hRF : ∀ (i0 : Nat) (a2 : Int32) (a3 : Int32) (m : mm_M) (r : Int32 × mm_M), RF i0 a2 a3 m = some r → ∀ d, e0 ≤ d → mm_X d 76 [.inr (.inr (some (2, i0))), .inr (.inr (some (1, 0))), .inl a2, .inl a3] m (.inl (some (.inl r.1)), r.2, 0, 0)) (hB : 1 ≤ e0) (d : Nat) (hd : e0 + 2 ≤ d) (i0 : Nat) (a2 : Int32) (m : mm_M) (r : Int32 × mm_M) (hres : f_X3_readPoint RF i0 a2 m = some r) : mm_X d 78 [.inr (.inr (some (2, i0))), .inr (.inr (some (1, 0))), .inl a2] m (.inl (some (.inl r.1)), r.2, 0, 0) := by
  unfold f_X3_readPoint at hres
  obtain ⟨d, rfl⟩ : ∃ e, d = e + 1 := ⟨d - 1, by omega⟩
  show mm_E (d + 1) 78 (0, [some (.inr (.inr (some (2, i0)))), some (.inr (.inr (some (1, 0)))), some (.inl a2), none], [], m) (.inl (some (.inl r.1)), r.2, 0, 0)
  refine e_steps 3 (s' := (6, [some (.inr (.inr (some (2, i0)))), some (.inr (.inr (some (1, 0)))), some (.inl a2), none], [.inl 40, .inl (m 1 0 7)], m)) rfl ?_
  refine e_if (s1 := (39, [some (.inr (.inr (some (2, i0)))), some (.inr (.inr (some (1, 0)))), some (.inl a2), none], [], m)) (s2 := (9, [some (.inr (.inr (some (2, i0)))), some (.inr (.inr (some (1, 0)))), some (.inl a2), none], [], m)) rfl hres (fun hc hres => ?_) (fun hc hres => ?_)
  · refine e_steps 3 (s' := (44, [some (.inr (.inr (some (2, i0)))), some (.inr (.inr (some (1, 0)))), some (.inl a2), none], [.inl 2, .inl (m 1 0 7)], m)) rfl ?_
    refine e_join (fun k1 => k1 = some r → mm_E (d + 1) 78 (92, [some (.inr (.inr (some (2, i0)))), some (.inr (.inr (some (1, 0)))), none, none], [], m) (.inl (some (.inl r.1)), r.2, 0, 0)) hres (fun  hres => ?_) (fun k1 hk1 hres => ?_)
    · refine e_steps 5 (s' := (101, [some (.inr (.inr (some (2, i0)))), some (.inr (.inr (some (1, 0)))), none, none], [.inl (m 1 0 8), .inl (m 1 0 7), .inr (.inr (some (2, i0)))], m)) rfl ?_
      obtain ⟨r2, m3, hv, hres⟩ := mm_b2_some hres
      refine e_call0 (pc := 104) (L := [some (.inr (.inr (some (2, i0)))), some (.inr (.inr (some (1, 0)))), none, none]) (st := []) (m' := m3) (v := some (.inl r2)) rfl (k_X3_put d (by omega) i0 (m 1 0 7) (m 1 0 8) _ _ hv) ?_
      show mm_E (d + 1) 78 (104, [some (.inr (.inr (some (2, i0)))), some (.inr (.inr (some (1, 0)))), none, none], [.inl r2], m3) (.inl (some (.inl r.1)), r.2, 0, 0)
      refine e_steps 2 (s' := (106, [some (.inr (.inr (some (2, i0)))), some (.inr (.inr (some (1, 0)))), none, some (.inl r2)], [.inr (.inr (some (1, 0)))], m3)) rfl ?_
      obtain ⟨m5, hv, hres⟩ := mm_b1_some hres
      refine e_call0 (pc := 109) (L := [some (.inr (.inr (some (2, i0)))), some (.inr (.inr (some (1, 0)))), none, some (.inl r2)]) (st := []) (m' := m5) (v := none) rfl (k_X9_advance d (by omega)  _ _ hv) ?_
      show mm_E (d + 1) 78 (109, [some (.inr (.inr (some (2, i0)))), some (.inr (.inr (some (1, 0)))), none, some (.inl r2)], [], m5) (.inl (some (.inl r.1)), r.2, 0, 0)
      refine e_steps 1 (s' := (110, [some (.inr (.inr (some (2, i0)))), some (.inr (.inr (some (1, 0)))), none, some (.inl r2)], [.inl r2], m5)) rfl ?_
      refine e_gr (o := .inl (some (.inl r2))) rfl hres (fun hc hres => ?_)
      obtain rfl := Option.some.inj hres
      rfl
    · refine e_if (s1 := (62, [some (.inr (.inr (some (2, i0)))), some (.inr (.inr (some (1, 0)))), some (.inl a2), none], [], m)) (s2 := (47, [some (.inr (.inr (some (2, i0)))), some (.inr (.inr (some (1, 0)))), some (.inl a2), none], [], m)) rfl hres (fun hc hres => ?_) (fun hc hres => ?_)
      · refine e_steps 2 (s' := (66, [some (.inr (.inr (some (2, i0)))), some (.inr (.inr (some (1, 0)))), some (.inl a2), none], [.inl (m 1 0 7)], m)) rfl ?_
        obtain ⟨r6, hv, hres⟩ := mm_b1_some hres
        refine e_call0 (pc := 69) (L := [some (.inr (.inr (some (2, i0)))), some (.inr (.inr (some (1, 0)))), some (.inl a2), none]) (st := []) (m' := m) (v := some (.inl r6)) rfl (k_X3_isValue d (by omega) (m 1 0 7) _ _ hv) ?_
        show mm_E (d + 1) 78 (69, [some (.inr (.inr (some (2, i0)))), some (.inr (.inr (some (1, 0)))), some (.inl a2), none], [.inl r6], m) (.inl (some (.inl r.1)), r.2, 0, 0)
        refine e_if (s1 := (92, [some (.inr (.inr (some (2, i0)))), some (.inr (.inr (some (1, 0)))), some (.inl a2), none], [], m)) (s2 := (72, [some (.inr (.inr (some (2, i0)))), some (.inr (.inr (some (1, 0)))), some (.inl a2), none], [], m)) rfl hres (fun hc hres => ?_) (fun hc hres => ?_)
        · exact e_mask (L' := [some (.inr (.inr (some (2, i0)))), some (.inr (.inr (some (1, 0)))), none, none]) rfl (hk1  hres)
        · refine e_steps 3 (s' := (77, [some (.inr (.inr (some (2, i0)))), some (.inr (.inr (some (1, 0)))), some (.inl a2), none], [.inl (m 1 0 7), .inr (.inr (some (1, 0)))], m)) rfl ?_
          obtain ⟨r7, hv, hres⟩ := mm_b1_some hres
          refine e_call0 (pc := 80) (L := [some (.inr (.inr (some (2, i0)))), some (.inr (.inr (some (1, 0)))), some (.inl a2), none]) (st := [.inr (.inr (some (1, 0)))]) (m' := m) (v := some (.inl r7)) rfl (k_X9_isWord d (by omega) (m 1 0 7) _ _ hv) ?_
          show mm_E (d + 1) 78 (80, [some (.inr (.inr (some (2, i0)))), some (.inr (.inr (some (1, 0)))), some (.inl a2), none], [.inl r7, .inr (.inr (some (1, 0)))], m) (.inl (some (.inl r.1)), r.2, 0, 0)
          refine e_if (s1 := (87, [some (.inr (.inr (some (2, i0)))), some (.inr (.inr (some (1, 0)))), some (.inl a2), none], [.inr (.inr (some (1, 0)))], m)) (s2 := (83, [some (.inr (.inr (some (2, i0)))), some (.inr (.inr (some (1, 0)))), some (.inl a2), none], [.inr (.inr (some (1, 0)))], m)) rfl hres (fun hc hres => ?_) (fun hc hres => ?_)
          · refine e_steps 1 (s' := (88, [some (.inr (.inr (some (2, i0)))), some (.inr (.inr (some (1, 0)))), some (.inl a2), none], [.inl 1, .inr (.inr (some (1, 0)))], m)) rfl ?_
            refine e_mask (L' := [none, none, none, none]) rfl ?_
            obtain ⟨r8, m9, hv, hres⟩ := mm_b2_some hres
            refine e_call0 (pc := 91) (L := [none, none, none, none]) (st := []) (m' := m9) (v := some (.inl r8)) rfl (k_X9_refuse d (by omega) 1 _ _ hv) ?_
            show mm_E (d + 1) 78 (91, [none, none, none, none], [.inl r8], m9) (.inl (some (.inl r.1)), r.2, 0, 0)
            refine e_gr (o := .inl (some (.inl r8))) rfl hres (fun hc hres => ?_)
            obtain rfl := Option.some.inj hres
            rfl
          · refine e_steps 2 (s' := (88, [some (.inr (.inr (some (2, i0)))), some (.inr (.inr (some (1, 0)))), some (.inl a2), none], [.inl 3, .inr (.inr (some (1, 0)))], m)) rfl ?_
            refine e_mask (L' := [none, none, none, none]) rfl ?_
            obtain ⟨r10, m11, hv, hres⟩ := mm_b2_some hres
            refine e_call0 (pc := 91) (L := [none, none, none, none]) (st := []) (m' := m11) (v := some (.inl r10)) rfl (k_X9_refuse d (by omega) 3 _ _ hv) ?_
            show mm_E (d + 1) 78 (91, [none, none, none, none], [.inl r10], m11) (.inl (some (.inl r.1)), r.2, 0, 0)
            refine e_gr (o := .inl (some (.inl r10))) rfl hres (fun hc hres => ?_)
            obtain rfl := Option.some.inj hres
            rfl
      · refine e_steps 3 (s' := (51, [some (.inr (.inr (some (2, i0)))), some (.inr (.inr (some (1, 0)))), some (.inl a2), none], [.inl 99999, .inl 0, .inr (.inr (some (1, 0)))], m)) rfl ?_
        obtain ⟨r12, hv, hres⟩ := mm_b1_some hres
        refine e_call0 (pc := 54) (L := [some (.inr (.inr (some (2, i0)))), some (.inr (.inr (some (1, 0)))), some (.inl a2), none]) (st := []) (m' := m) (v := some (.inl r12)) rfl (k_X9_isNumberIn d (by omega) 0 99999 _ _ hv) ?_
        show mm_E (d + 1) 78 (54, [some (.inr (.inr (some (2, i0)))), some (.inr (.inr (some (1, 0)))), some (.inl a2), none], [.inl r12], m) (.inl (some (.inl r.1)), r.2, 0, 0)
        refine e_if (s1 := (92, [some (.inr (.inr (some (2, i0)))), some (.inr (.inr (some (1, 0)))), some (.inl a2), none], [], m)) (s2 := (57, [some (.inr (.inr (some (2, i0)))), some (.inr (.inr (some (1, 0)))), some (.inl a2), none], [], m)) rfl hres (fun hc hres => ?_) (fun hc hres => ?_)
        · exact e_mask (L' := [some (.inr (.inr (some (2, i0)))), some (.inr (.inr (some (1, 0)))), none, none]) rfl (hk1  hres)
        · refine e_steps 1 (s' := (58, [some (.inr (.inr (some (2, i0)))), some (.inr (.inr (some (1, 0)))), some (.inl a2), none], [.inr (.inr (some (1, 0)))], m)) rfl ?_
          obtain ⟨r13, m14, hv, hres⟩ := mm_b2_some hres
          refine e_call0 (pc := 61) (L := [some (.inr (.inr (some (2, i0)))), some (.inr (.inr (some (1, 0)))), some (.inl a2), none]) (st := []) (m' := m14) (v := some (.inl r13)) rfl (k_X9_refuseNumber d (by omega)  _ _ hv) ?_
          show mm_E (d + 1) 78 (61, [some (.inr (.inr (some (2, i0)))), some (.inr (.inr (some (1, 0)))), some (.inl a2), none], [.inl r13], m14) (.inl (some (.inl r.1)), r.2, 0, 0)
          refine e_gr (o := .inl (some (.inl r13))) rfl hres (fun hc hres => ?_)
          obtain rfl := Option.some.inj hres
          rfl
  · refine e_steps 1 (s' := (10, [some (.inr (.inr (some (2, i0)))), some (.inr (.inr (some (1, 0)))), some (.inl a2), none], [.inr (.inr (some (1, 0)))], m)) rfl ?_
    obtain ⟨m16, hv, hres⟩ := mm_b1_some hres
    refine e_call0 (pc := 13) (L := [some (.inr (.inr (some (2, i0)))), some (.inr (.inr (some (1, 0)))), some (.inl a2), none]) (st := []) (m' := m16) (v := none) rfl (k_X9_advance d (by omega)  _ _ hv) ?_
    show mm_E (d + 1) 78 (13, [some (.inr (.inr (some (2, i0)))), some (.inr (.inr (some (1, 0)))), some (.inl a2), none], [], m16) (.inl (some (.inl r.1)), r.2, 0, 0)
    refine e_steps 5 (s' := (18, [some (.inr (.inr (some (2, i0)))), some (.inr (.inr (some (1, 0)))), some (.inl a2), none], [.inl (a2 + 1), .inr (.inr (some (1, 0))), .inr (.inr (some (2, i0)))], m16)) rfl ?_
    obtain ⟨r17, m18, hv, hres⟩ := mm_b2_some hres
    refine e_call0 (pc := 21) (L := [some (.inr (.inr (some (2, i0)))), some (.inr (.inr (some (1, 0)))), some (.inl a2), none]) (st := []) (m' := m18) (v := some (.inl r17)) rfl (k_X3_readExpression RF e0 hRF hB d (by omega) i0 (a2 + 1) _ _ hv) ?_
    show mm_E (d + 1) 78 (21, [some (.inr (.inr (some (2, i0)))), some (.inr (.inr (some (1, 0)))), some (.inl a2), none], [.inl r17], m18) (.inl (some (.inl r.1)), r.2, 0, 0)
    refine e_if (s1 := (37, [some (.inr (.inr (some (2, i0)))), some (.inr (.inr (some (1, 0)))), some (.inl a2), none], [], m18)) (s2 := (24, [some (.inr (.inr (some (2, i0)))), some (.inr (.inr (some (1, 0)))), some (.inl a2), none], [], m18)) rfl hres (fun hc hres => ?_) (fun hc hres => ?_)
    · refine e_mask (L' := [none, none, none, none]) rfl ?_
      refine e_steps 1 (s' := (38, [none, none, none, none], [.inl 0], m18)) rfl ?_
      obtain rfl := Option.some.inj hres
      exact e_ret rfl rfl
    · refine e_steps 2 (s' := (27, [some (.inr (.inr (some (2, i0)))), some (.inr (.inr (some (1, 0)))), some (.inl a2), none], [.inl 41, .inr (.inr (some (1, 0)))], m18)) rfl ?_
      obtain ⟨r19, m20, hv, hres⟩ := mm_b2_some hres
      refine e_call0 (pc := 30) (L := [some (.inr (.inr (some (2, i0)))), some (.inr (.inr (some (1, 0)))), some (.inl a2), none]) (st := []) (m' := m20) (v := some (.inl r19)) rfl (k_X9_passSign d (by omega) 41 _ _ hv) ?_
      show mm_E (d + 1) 78 (30, [some (.inr (.inr (some (2, i0)))), some (.inr (.inr (some (1, 0)))), some (.inl a2), none], [.inl r19], m20) (.inl (some (.inl r.1)), r.2, 0, 0)
      refine e_if (s1 := (37, [some (.inr (.inr (some (2, i0)))), some (.inr (.inr (some (1, 0)))), some (.inl a2), none], [], m20)) (s2 := (33, [some (.inr (.inr (some (2, i0)))), some (.inr (.inr (some (1, 0)))), some (.inl a2), none], [], m20)) rfl hres (fun hc hres => ?_) (fun hc hres => ?_)
      · refine e_mask (L' := [none, none, none, none]) rfl ?_
        refine e_steps 1 (s' := (38, [none, none, none, none], [.inl 0], m20)) rfl ?_
        obtain rfl := Option.some.inj hres
        exact e_ret rfl rfl
      · refine e_steps 2 (s' := (38, [some (.inr (.inr (some (2, i0)))), some (.inr (.inr (some (1, 0)))), some (.inl a2), none], [.inl 1], m20)) rfl ?_
        refine e_mask (L' := [none, none, none, none]) rfl ?_
        obtain rfl := Option.some.inj hres
        exact e_ret rfl rfl
/-- GlassThreads$Law.readNots(LGlassThreads$Tape;I)Z -/
def f_X3_readNots (RF : Nat → Int32 → Int32 → mm_M → Option (Int32 × mm_M)) (i0 : Nat) (a2 : Int32) (m : mm_M) : Option (Int32 × mm_M) :=
(mm_b1 (mm_loop (σ := Int32 × mm_M) (ρ := (Int32 × mm_M)) (fun (s : Int32 × mm_M) => match s with
| (v2, m3) => (if 6 ≤ v2 then (some (.inr (v2, m3)))
else (if (m3 1 0 7) ≠ 263 then (some (.inr (v2, m3)))
else (mm_b1 (f_X9_advance m3) fun m5 =>
mm_let (v2 + 1) fun v6 =>
some (.inl (v6, m5)))) : Option ((Int32 × mm_M) ⊕ ((Int32 × mm_M))))) mm_fu (0, m)) fun t => match t with
| (v7, m8) => if (m8 1 0 7) ≠ 263 then (mm_b2 (RF i0 3 a2 m8) fun r9 m10 =>
(mm_b1 (mm_loop (σ := Int32 × Int32 × mm_M) (ρ := (Int32 × mm_M)) (fun (s : Int32 × Int32 × mm_M) => match s with
| (v12, v13, m14) => (if v7 ≤ v13 then (some (.inr (v12, m14)))
else (if v12 = 0 then (some (.inr (v12, m14)))
else (mm_b2 (f_X3_put i0 263 0 m14) fun r15 m16 =>
mm_let (v13 + 1) fun v17 =>
some (.inl (r15, v17, m16)))) : Option ((Int32 × Int32 × mm_M) ⊕ ((Int32 × mm_M))))) mm_fu (r9, 0, m10)) fun t => match t with
| (v18, m19) => if v18 = 0 ∨ v18 = 1 then some (v18, m19) else none))
else (mm_b2 (f_X9_refuse 2 m8) fun r20 m21 =>
if r20 = 0 ∨ r20 = 1 then some (r20, m21) else none))
set_option maxHeartbeats 4000000 in
set_option maxRecDepth 100000 in
theorem k_X3_readNots (RF : Nat → Int32 → Int32 → mm_M → Option (Int32 × mm_M)) (e0 : Nat) (hRF : ∀ (i0 : Nat) (a2 : Int32) (a3 : Int32) (m : mm_M) (r : Int32 × mm_M), RF i0 a2 a3 m = some r → ∀ d, e0 ≤ d → mm_X d 76 [.inr (.inr (some (2, i0))), .inr (.inr (some (1, 0))), .inl a2, .inl a3] m (.inl (some (.inl r.1)), r.2, 0, 0)) (hB : 1 ≤ e0) (d : Nat) (hd : e0 + 1 ≤ d) (i0 : Nat) (a2 : Int32) (m : mm_M) (r : Int32 × mm_M) (hres : f_X3_readNots RF i0 a2 m = some r) : mm_X d 77 [.inr (.inr (some (2, i0))), .inr (.inr (some (1, 0))), .inl a2] m (.inl (some (.inl r.1)), r.2, 0, 0) := by
  unfold f_X3_readNots at hres
  obtain ⟨d, rfl⟩ : ∃ e, d = e + 1 := ⟨d - 1, by omega⟩
  show mm_E (d + 1) 77 (0, [some (.inr (.inr (some (2, i0)))), some (.inr (.inr (some (1, 0)))), some (.inl a2), none, none, none], [], m) (.inl (some (.inl r.1)), r.2, 0, 0)
  refine e_steps 2 (s' := (2, [some (.inr (.inr (some (2, i0)))), some (.inr (.inr (some (1, 0)))), some (.inl a2), some (.inl 0), none, none], [], m)) rfl ?_
  refine e_mask (L' := [some (.inr (.inr (some (2, i0)))), some (.inr (.inr (some (1, 0)))), some (.inl a2), some (.inl 0), none, none]) rfl ?_
  refine e_loopb (φ := fun s => (2, [some (.inr (.inr (some (2, i0)))), some (.inr (.inr (some (1, 0)))), some (.inl a2), some (.inl s.1), none, none], [], s.2)) (K := fun t => mm_E (d + 1) 77 (28, [some (.inr (.inr (some (2, i0)))), some (.inr (.inr (some (1, 0)))), some (.inl a2), some (.inl t.1), none, none], [], t.2) (.inl (some (.inl r.1)), r.2, 0, 0)) hres (fun t hres => ?_) (fun s ol1 hres hcl1 hxl1 => ?_)
  · obtain ⟨v7, m8⟩ := t
    show mm_E (d + 1) 77 (28, [some (.inr (.inr (some (2, i0)))), some (.inr (.inr (some (1, 0)))), some (.inl a2), some (.inl v7), none, none], [], m8) (.inl (some (.inl r.1)), r.2, 0, 0)
    refine e_steps 3 (s' := (35, [some (.inr (.inr (some (2, i0)))), some (.inr (.inr (some (1, 0)))), some (.inl a2), some (.inl v7), none, none], [.inl 263, .inl (m8 1 0 7)], m8)) rfl ?_
    refine e_if (s1 := (44, [some (.inr (.inr (some (2, i0)))), some (.inr (.inr (some (1, 0)))), some (.inl a2), some (.inl v7), none, none], [], m8)) (s2 := (38, [some (.inr (.inr (some (2, i0)))), some (.inr (.inr (some (1, 0)))), some (.inl a2), some (.inl v7), none, none], [], m8)) rfl hres (fun hc hres => ?_) (fun hc hres => ?_)
    · refine e_steps 4 (s' := (48, [some (.inr (.inr (some (2, i0)))), some (.inr (.inr (some (1, 0)))), some (.inl a2), some (.inl v7), none, none], [.inl a2, .inl 3, .inr (.inr (some (1, 0))), .inr (.inr (some (2, i0)))], m8)) rfl ?_
      obtain ⟨r9, m10, hv, hres⟩ := mm_b2_some hres
      refine e_call0 (pc := 51) (L := [some (.inr (.inr (some (2, i0)))), some (.inr (.inr (some (1, 0)))), some (.inl a2), some (.inl v7), none, none]) (st := []) (m' := m10) (v := some (.inl r9)) rfl (hRF i0 3 a2 _ _ hv d (by omega)) ?_
      show mm_E (d + 1) 77 (51, [some (.inr (.inr (some (2, i0)))), some (.inr (.inr (some (1, 0)))), some (.inl a2), some (.inl v7), none, none], [.inl r9], m10) (.inl (some (.inl r.1)), r.2, 0, 0)
      refine e_steps 3 (s' := (56, [some (.inr (.inr (some (2, i0)))), some (.inr (.inr (some (1, 0)))), some (.inl a2), some (.inl v7), some (.inl r9), some (.inl 0)], [], m10)) rfl ?_
      refine e_mask (L' := [some (.inr (.inr (some (2, i0)))), none, none, some (.inl v7), some (.inl r9), some (.inl 0)]) rfl ?_
      refine e_loopb (φ := fun s => (56, [some (.inr (.inr (some (2, i0)))), none, none, some (.inl v7), some (.inl s.1), some (.inl s.2.1)], [], s.2.2)) (K := fun t => mm_E (d + 1) 77 (83, [none, none, none, none, some (.inl t.1), none], [], t.2) (.inl (some (.inl r.1)), r.2, 0, 0)) hres (fun t hres => ?_) (fun s ol11 hres hcl11 hxl11 => ?_)
      · obtain ⟨v18, m19⟩ := t
        show mm_E (d + 1) 77 (83, [none, none, none, none, some (.inl v18), none], [], m19) (.inl (some (.inl r.1)), r.2, 0, 0)
        refine e_steps 1 (s' := (85, [none, none, none, none, some (.inl v18), none], [.inl v18], m19)) rfl ?_
        refine e_gr (o := .inl (some (.inl v18))) rfl hres (fun hc hres => ?_)
        obtain rfl := Option.some.inj hres
        rfl
      · obtain ⟨v12, v13, m14⟩ := s
        show mm_E (d + 1) 77 (56, [some (.inr (.inr (some (2, i0)))), none, none, some (.inl v7), some (.inl v12), some (.inl v13)], [], m14) (.inl (some (.inl r.1)), r.2, 0, 0)
        refine e_steps 2 (s' := (59, [some (.inr (.inr (some (2, i0)))), none, none, some (.inl v7), some (.inl v12), some (.inl v13)], [.inl v7, .inl v13], m14)) rfl ?_
        refine e_if (s1 := (83, [some (.inr (.inr (some (2, i0)))), none, none, some (.inl v7), some (.inl v12), some (.inl v13)], [], m14)) (s2 := (62, [some (.inr (.inr (some (2, i0)))), none, none, some (.inl v7), some (.inl v12), some (.inl v13)], [], m14)) rfl hres (fun hc hres => ?_) (fun hc hres => ?_)
        · obtain rfl := Option.some.inj hres
          exact e_mask (L' := [none, none, none, none, some (.inl v12), none]) rfl (hxl11 _ rfl)
        · refine e_steps 1 (s' := (64, [some (.inr (.inr (some (2, i0)))), none, none, some (.inl v7), some (.inl v12), some (.inl v13)], [.inl v12], m14)) rfl ?_
          refine e_if (s1 := (83, [some (.inr (.inr (some (2, i0)))), none, none, some (.inl v7), some (.inl v12), some (.inl v13)], [], m14)) (s2 := (67, [some (.inr (.inr (some (2, i0)))), none, none, some (.inl v7), some (.inl v12), some (.inl v13)], [], m14)) rfl hres (fun hc hres => ?_) (fun hc hres => ?_)
          · obtain rfl := Option.some.inj hres
            exact e_mask (L' := [none, none, none, none, some (.inl v12), none]) rfl (hxl11 _ rfl)
          · refine e_steps 3 (s' := (72, [some (.inr (.inr (some (2, i0)))), none, none, some (.inl v7), some (.inl v12), some (.inl v13)], [.inl 0, .inl 263, .inr (.inr (some (2, i0)))], m14)) rfl ?_
            obtain ⟨r15, m16, hv, hres⟩ := mm_b2_some hres
            refine e_call0 (pc := 75) (L := [some (.inr (.inr (some (2, i0)))), none, none, some (.inl v7), some (.inl v12), some (.inl v13)]) (st := []) (m' := m16) (v := some (.inl r15)) rfl (k_X3_put d (by omega) i0 263 0 _ _ hv) ?_
            show mm_E (d + 1) 77 (75, [some (.inr (.inr (some (2, i0)))), none, none, some (.inl v7), some (.inl v12), some (.inl v13)], [.inl r15], m16) (.inl (some (.inl r.1)), r.2, 0, 0)
            refine e_steps 2 (s' := (80, [some (.inr (.inr (some (2, i0)))), none, none, some (.inl v7), some (.inl r15), some (.inl (v13 + 1))], [], m16)) rfl ?_
            refine e_let (fun (v17 : Int32) => (80, [some (.inr (.inr (some (2, i0)))), none, none, some (.inl v7), some (.inl r15), some (.inl v17)], [], m16)) hres (fun v17 hres => ?_)
            refine e_steps 1 (s' := (56, [some (.inr (.inr (some (2, i0)))), none, none, some (.inl v7), some (.inl r15), some (.inl v17)], [], m16)) rfl ?_
            obtain rfl := Option.some.inj hres
            exact e_mask (L' := [some (.inr (.inr (some (2, i0)))), none, none, some (.inl v7), some (.inl r15), some (.inl v17)]) rfl (hcl11 _ rfl)
    · refine e_steps 2 (s' := (40, [some (.inr (.inr (some (2, i0)))), some (.inr (.inr (some (1, 0)))), some (.inl a2), some (.inl v7), none, none], [.inl 2, .inr (.inr (some (1, 0)))], m8)) rfl ?_
      obtain ⟨r20, m21, hv, hres⟩ := mm_b2_some hres
      refine e_call0 (pc := 43) (L := [some (.inr (.inr (some (2, i0)))), some (.inr (.inr (some (1, 0)))), some (.inl a2), some (.inl v7), none, none]) (st := []) (m' := m21) (v := some (.inl r20)) rfl (k_X9_refuse d (by omega) 2 _ _ hv) ?_
      show mm_E (d + 1) 77 (43, [some (.inr (.inr (some (2, i0)))), some (.inr (.inr (some (1, 0)))), some (.inl a2), some (.inl v7), none, none], [.inl r20], m21) (.inl (some (.inl r.1)), r.2, 0, 0)
      refine e_gr (o := .inl (some (.inl r20))) rfl hres (fun hc hres => ?_)
      obtain rfl := Option.some.inj hres
      rfl
  · obtain ⟨v2, m3⟩ := s
    show mm_E (d + 1) 77 (2, [some (.inr (.inr (some (2, i0)))), some (.inr (.inr (some (1, 0)))), some (.inl a2), some (.inl v2), none, none], [], m3) (.inl (some (.inl r.1)), r.2, 0, 0)
    refine e_steps 2 (s' := (5, [some (.inr (.inr (some (2, i0)))), some (.inr (.inr (some (1, 0)))), some (.inl a2), some (.inl v2), none, none], [.inl 6, .inl v2], m3)) rfl ?_
    refine e_if (s1 := (28, [some (.inr (.inr (some (2, i0)))), some (.inr (.inr (some (1, 0)))), some (.inl a2), some (.inl v2), none, none], [], m3)) (s2 := (8, [some (.inr (.inr (some (2, i0)))), some (.inr (.inr (some (1, 0)))), some (.inl a2), some (.inl v2), none, none], [], m3)) rfl hres (fun hc hres => ?_) (fun hc hres => ?_)
    · obtain rfl := Option.some.inj hres
      exact e_mask (L' := [some (.inr (.inr (some (2, i0)))), some (.inr (.inr (some (1, 0)))), some (.inl a2), some (.inl v2), none, none]) rfl (hxl1 _ rfl)
    · refine e_steps 3 (s' := (15, [some (.inr (.inr (some (2, i0)))), some (.inr (.inr (some (1, 0)))), some (.inl a2), some (.inl v2), none, none], [.inl 263, .inl (m3 1 0 7)], m3)) rfl ?_
      refine e_if (s1 := (28, [some (.inr (.inr (some (2, i0)))), some (.inr (.inr (some (1, 0)))), some (.inl a2), some (.inl v2), none, none], [], m3)) (s2 := (18, [some (.inr (.inr (some (2, i0)))), some (.inr (.inr (some (1, 0)))), some (.inl a2), some (.inl v2), none, none], [], m3)) rfl hres (fun hc hres => ?_) (fun hc hres => ?_)
      · obtain rfl := Option.some.inj hres
        exact e_mask (L' := [some (.inr (.inr (some (2, i0)))), some (.inr (.inr (some (1, 0)))), some (.inl a2), some (.inl v2), none, none]) rfl (hxl1 _ rfl)
      · refine e_steps 1 (s' := (19, [some (.inr (.inr (some (2, i0)))), some (.inr (.inr (some (1, 0)))), some (.inl a2), some (.inl v2), none, none], [.inr (.inr (some (1, 0)))], m3)) rfl ?_
        obtain ⟨m5, hv, hres⟩ := mm_b1_some hres
        refine e_call0 (pc := 22) (L := [some (.inr (.inr (some (2, i0)))), some (.inr (.inr (some (1, 0)))), some (.inl a2), some (.inl v2), none, none]) (st := []) (m' := m5) (v := none) rfl (k_X9_advance d (by omega)  _ _ hv) ?_
        show mm_E (d + 1) 77 (22, [some (.inr (.inr (some (2, i0)))), some (.inr (.inr (some (1, 0)))), some (.inl a2), some (.inl v2), none, none], [], m5) (.inl (some (.inl r.1)), r.2, 0, 0)
        refine e_steps 1 (s' := (25, [some (.inr (.inr (some (2, i0)))), some (.inr (.inr (some (1, 0)))), some (.inl a2), some (.inl (v2 + 1)), none, none], [], m5)) rfl ?_
        refine e_let (fun (v6 : Int32) => (25, [some (.inr (.inr (some (2, i0)))), some (.inr (.inr (some (1, 0)))), some (.inl a2), some (.inl v6), none, none], [], m5)) hres (fun v6 hres => ?_)
        refine e_steps 1 (s' := (2, [some (.inr (.inr (some (2, i0)))), some (.inr (.inr (some (1, 0)))), some (.inl a2), some (.inl v6), none, none], [], m5)) rfl ?_
        obtain rfl := Option.some.inj hres
        exact e_mask (L' := [some (.inr (.inr (some (2, i0)))), some (.inr (.inr (some (1, 0)))), some (.inl a2), some (.inl v6), none, none]) rfl (hcl1 _ rfl)
/-- GlassThreads$Law.readChain(LGlassThreads$Tape;II)Z -/
def f_X3_readChain : Nat → Nat → Int32 → Int32 → mm_M → Option (Int32 × mm_M)
  | 0 => fun _ _ _ _ => none
  | n + 1 => fun i0 a2 a3 m =>
if a2 ≠ 2 then (if a2 < 6 then (mm_let (fun (w1 : Int32) => (mm_b2 (f_X3_readChain n i0 (a2 + 1) a3 m) fun r3 m4 =>
(mm_b1 (mm_loop (σ := Int32 × Int32 × mm_M) (ρ := (Int32 × mm_M)) (fun (s : Int32 × Int32 × mm_M) => match s with
| (v6, v7, m8) => (if w1 ≤ v7 then (some (.inr (v6, m8)))
else (if v6 = 0 then (some (.inr (v6, m8)))
else (mm_b1 (f_X3_levelOf (m8 1 0 7) m8) fun r9 =>
if r9 ≠ a2 then (some (.inr (v6, m8)))
else (mm_let (m8 1 0 7) fun v10 =>
mm_b1 (f_X9_advance m8) fun m12 =>
mm_b2 (f_X3_readChain n i0 (a2 + 1) a3 m12) fun r13 m14 =>
if r13 = 0 then (mm_let (v7 + 1) fun v15 =>
some (.inl (0, v15, m14)))
else (mm_b2 (f_X3_put i0 v10 0 m14) fun r16 m17 =>
if r16 = 0 then (mm_let (v7 + 1) fun v18 =>
some (.inl (0, v18, m17)))
else (mm_let (v7 + 1) fun v19 =>
some (.inl (1, v19, m17))))))) : Option ((Int32 × Int32 × mm_M) ⊕ ((Int32 × mm_M))))) mm_fu (r3, 0, m4)) fun t => match t with
| (v20, m21) => if v20 = 0 ∨ v20 = 1 then some (v20, m21) else none) : Option (Int32 × mm_M))) fun k2 =>
if a2 ≠ 3 then (k2 400)
else (k2 1))
else (mm_b2 (f_X3_readPoint (f_X3_readChain n) i0 a3 m) fun r22 m23 =>
if r22 = 0 ∨ r22 = 1 then some (r22, m23) else none))
else (mm_b2 (f_X3_readNots (f_X3_readChain n) i0 a3 m) fun r24 m25 =>
if r24 = 0 ∨ r24 = 1 then some (r24, m25) else none)
set_option maxHeartbeats 4000000 in
set_option maxRecDepth 100000 in
theorem k_X3_readChain (n : Nat) : ∀ (d : Nat) (hd : 1 + 3 * n ≤ d) (i0 : Nat) (a2 : Int32) (a3 : Int32) (m : mm_M) (r : Int32 × mm_M) (hres : f_X3_readChain n i0 a2 a3 m = some r), mm_X d 76 [.inr (.inr (some (2, i0))), .inr (.inr (some (1, 0))), .inl a2, .inl a3] m (.inl (some (.inl r.1)), r.2, 0, 0) := by
  induction n with
  | zero => intro d hd i0 a2 a3 m r hres; cases hres
  | succ n ih =>
    intro d hd i0 a2 a3 m r hres
    have hRF : ∀ (i0 : Nat) (a2 : Int32) (a3 : Int32) (m : mm_M) (r : Int32 × mm_M), f_X3_readChain n i0 a2 a3 m = some r → ∀ d, (1 + 3 * n) ≤ d → mm_X d 76 [.inr (.inr (some (2, i0))), .inr (.inr (some (1, 0))), .inl a2, .inl a3] m (.inl (some (.inl r.1)), r.2, 0, 0) := fun i0 a2 a3 m r h d hd => ih d hd i0 a2 a3 m r h
    obtain ⟨d, rfl⟩ : ∃ e, d = e + 1 := ⟨d - 1, by omega⟩
    show mm_E (d + 1) 76 (0, [some (.inr (.inr (some (2, i0)))), some (.inr (.inr (some (1, 0)))), some (.inl a2), some (.inl a3), none, none, none, none], [], m) (.inl (some (.inl r.1)), r.2, 0, 0)
    refine e_steps 2 (s' := (2, [some (.inr (.inr (some (2, i0)))), some (.inr (.inr (some (1, 0)))), some (.inl a2), some (.inl a3), none, none, none, none], [.inl 2, .inl a2], m)) rfl ?_
    refine e_if (s1 := (12, [some (.inr (.inr (some (2, i0)))), some (.inr (.inr (some (1, 0)))), some (.inl a2), some (.inl a3), none, none, none, none], [], m)) (s2 := (5, [some (.inr (.inr (some (2, i0)))), some (.inr (.inr (some (1, 0)))), some (.inl a2), some (.inl a3), none, none, none, none], [], m)) rfl hres (fun hc hres => ?_) (fun hc hres => ?_)
    · refine e_steps 2 (s' := (15, [some (.inr (.inr (some (2, i0)))), some (.inr (.inr (some (1, 0)))), some (.inl a2), some (.inl a3), none, none, none, none], [.inl 6, .inl a2], m)) rfl ?_
      refine e_if (s1 := (25, [some (.inr (.inr (some (2, i0)))), some (.inr (.inr (some (1, 0)))), some (.inl a2), some (.inl a3), none, none, none, none], [], m)) (s2 := (18, [some (.inr (.inr (some (2, i0)))), some (.inr (.inr (some (1, 0)))), some (.inl a2), some (.inl a3), none, none, none, none], [], m)) rfl hres (fun hc hres => ?_) (fun hc hres => ?_)
      · refine e_steps 2 (s' := (27, [some (.inr (.inr (some (2, i0)))), some (.inr (.inr (some (1, 0)))), some (.inl a2), some (.inl a3), none, none, none, none], [.inl 3, .inl a2], m)) rfl ?_
        refine e_join (fun k2 => ∀ (w1 : Int32), k2 w1 = some r → mm_E (d + 1) 76 (37, [some (.inr (.inr (some (2, i0)))), some (.inr (.inr (some (1, 0)))), some (.inl a2), some (.inl a3), none, none, none, none], [.inl w1], m) (.inl (some (.inl r.1)), r.2, 0, 0)) hres (fun w1 hres => ?_) (fun k2 hk2 hres => ?_)
        · refine e_steps 7 (s' := (45, [some (.inr (.inr (some (2, i0)))), some (.inr (.inr (some (1, 0)))), some (.inl a2), some (.inl a3), some (.inl w1), none, none, none], [.inl a3, .inl (a2 + 1), .inr (.inr (some (1, 0))), .inr (.inr (some (2, i0)))], m)) rfl ?_
          obtain ⟨r3, m4, hv, hres⟩ := mm_b2_some hres
          refine e_call0 (pc := 48) (L := [some (.inr (.inr (some (2, i0)))), some (.inr (.inr (some (1, 0)))), some (.inl a2), some (.inl a3), some (.inl w1), none, none, none]) (st := []) (m' := m4) (v := some (.inl r3)) rfl (hRF i0 (a2 + 1) a3 _ _ hv d (by omega)) ?_
          show mm_E (d + 1) 76 (48, [some (.inr (.inr (some (2, i0)))), some (.inr (.inr (some (1, 0)))), some (.inl a2), some (.inl a3), some (.inl w1), none, none, none], [.inl r3], m4) (.inl (some (.inl r.1)), r.2, 0, 0)
          refine e_steps 3 (s' := (53, [some (.inr (.inr (some (2, i0)))), some (.inr (.inr (some (1, 0)))), some (.inl a2), some (.inl a3), some (.inl w1), some (.inl r3), some (.inl 0), none], [], m4)) rfl ?_
          refine e_mask (L' := [some (.inr (.inr (some (2, i0)))), some (.inr (.inr (some (1, 0)))), some (.inl a2), some (.inl a3), some (.inl w1), some (.inl r3), some (.inl 0), none]) rfl ?_
          refine e_loopb (φ := fun s => (53, [some (.inr (.inr (some (2, i0)))), some (.inr (.inr (some (1, 0)))), some (.inl a2), some (.inl a3), some (.inl w1), some (.inl s.1), some (.inl s.2.1), none], [], s.2.2)) (K := fun t => mm_E (d + 1) 76 (121, [none, none, none, none, none, some (.inl t.1), none, none], [], t.2) (.inl (some (.inl r.1)), r.2, 0, 0)) hres (fun t hres => ?_) (fun s ol5 hres hcl5 hxl5 => ?_)
          · obtain ⟨v20, m21⟩ := t
            show mm_E (d + 1) 76 (121, [none, none, none, none, none, some (.inl v20), none, none], [], m21) (.inl (some (.inl r.1)), r.2, 0, 0)
            refine e_steps 1 (s' := (123, [none, none, none, none, none, some (.inl v20), none, none], [.inl v20], m21)) rfl ?_
            refine e_gr (o := .inl (some (.inl v20))) rfl hres (fun hc hres => ?_)
            obtain rfl := Option.some.inj hres
            rfl
          · obtain ⟨v6, v7, m8⟩ := s
            show mm_E (d + 1) 76 (53, [some (.inr (.inr (some (2, i0)))), some (.inr (.inr (some (1, 0)))), some (.inl a2), some (.inl a3), some (.inl w1), some (.inl v6), some (.inl v7), none], [], m8) (.inl (some (.inl r.1)), r.2, 0, 0)
            refine e_steps 2 (s' := (57, [some (.inr (.inr (some (2, i0)))), some (.inr (.inr (some (1, 0)))), some (.inl a2), some (.inl a3), some (.inl w1), some (.inl v6), some (.inl v7), none], [.inl w1, .inl v7], m8)) rfl ?_
            refine e_if (s1 := (121, [some (.inr (.inr (some (2, i0)))), some (.inr (.inr (some (1, 0)))), some (.inl a2), some (.inl a3), some (.inl w1), some (.inl v6), some (.inl v7), none], [], m8)) (s2 := (60, [some (.inr (.inr (some (2, i0)))), some (.inr (.inr (some (1, 0)))), some (.inl a2), some (.inl a3), some (.inl w1), some (.inl v6), some (.inl v7), none], [], m8)) rfl hres (fun hc hres => ?_) (fun hc hres => ?_)
            · obtain rfl := Option.some.inj hres
              exact e_mask (L' := [none, none, none, none, none, some (.inl v6), none, none]) rfl (hxl5 _ rfl)
            · refine e_steps 1 (s' := (62, [some (.inr (.inr (some (2, i0)))), some (.inr (.inr (some (1, 0)))), some (.inl a2), some (.inl a3), some (.inl w1), some (.inl v6), some (.inl v7), none], [.inl v6], m8)) rfl ?_
              refine e_if (s1 := (121, [some (.inr (.inr (some (2, i0)))), some (.inr (.inr (some (1, 0)))), some (.inl a2), some (.inl a3), some (.inl w1), some (.inl v6), some (.inl v7), none], [], m8)) (s2 := (65, [some (.inr (.inr (some (2, i0)))), some (.inr (.inr (some (1, 0)))), some (.inl a2), some (.inl a3), some (.inl w1), some (.inl v6), some (.inl v7), none], [], m8)) rfl hres (fun hc hres => ?_) (fun hc hres => ?_)
              · obtain rfl := Option.some.inj hres
                exact e_mask (L' := [none, none, none, none, none, some (.inl v6), none, none]) rfl (hxl5 _ rfl)
              · refine e_steps 2 (s' := (69, [some (.inr (.inr (some (2, i0)))), some (.inr (.inr (some (1, 0)))), some (.inl a2), some (.inl a3), some (.inl w1), some (.inl v6), some (.inl v7), none], [.inl (m8 1 0 7)], m8)) rfl ?_
                obtain ⟨r9, hv, hres⟩ := mm_b1_some hres
                refine e_call0 (pc := 72) (L := [some (.inr (.inr (some (2, i0)))), some (.inr (.inr (some (1, 0)))), some (.inl a2), some (.inl a3), some (.inl w1), some (.inl v6), some (.inl v7), none]) (st := []) (m' := m8) (v := some (.inl r9)) rfl (k_X3_levelOf d (by omega) (m8 1 0 7) _ _ hv) ?_
                show mm_E (d + 1) 76 (72, [some (.inr (.inr (some (2, i0)))), some (.inr (.inr (some (1, 0)))), some (.inl a2), some (.inl a3), some (.inl w1), some (.inl v6), some (.inl v7), none], [.inl r9], m8) (.inl (some (.inl r.1)), r.2, 0, 0)
                refine e_steps 1 (s' := (73, [some (.inr (.inr (some (2, i0)))), some (.inr (.inr (some (1, 0)))), some (.inl a2), some (.inl a3), some (.inl w1), some (.inl v6), some (.inl v7), none], [.inl a2, .inl r9], m8)) rfl ?_
                refine e_if (s1 := (121, [some (.inr (.inr (some (2, i0)))), some (.inr (.inr (some (1, 0)))), some (.inl a2), some (.inl a3), some (.inl w1), some (.inl v6), some (.inl v7), none], [], m8)) (s2 := (76, [some (.inr (.inr (some (2, i0)))), some (.inr (.inr (some (1, 0)))), some (.inl a2), some (.inl a3), some (.inl w1), some (.inl v6), some (.inl v7), none], [], m8)) rfl hres (fun hc hres => ?_) (fun hc hres => ?_)
                · obtain rfl := Option.some.inj hres
                  exact e_mask (L' := [none, none, none, none, none, some (.inl v6), none, none]) rfl (hxl5 _ rfl)
                · refine e_steps 3 (s' := (82, [some (.inr (.inr (some (2, i0)))), some (.inr (.inr (some (1, 0)))), some (.inl a2), some (.inl a3), some (.inl w1), some (.inl v6), some (.inl v7), some (.inl (m8 1 0 7))], [], m8)) rfl ?_
                  refine e_let (fun (v10 : Int32) => (82, [some (.inr (.inr (some (2, i0)))), some (.inr (.inr (some (1, 0)))), some (.inl a2), some (.inl a3), some (.inl w1), some (.inl v6), some (.inl v7), some (.inl v10)], [], m8)) hres (fun v10 hres => ?_)
                  refine e_steps 1 (s' := (83, [some (.inr (.inr (some (2, i0)))), some (.inr (.inr (some (1, 0)))), some (.inl a2), some (.inl a3), some (.inl w1), some (.inl v6), some (.inl v7), some (.inl v10)], [.inr (.inr (some (1, 0)))], m8)) rfl ?_
                  obtain ⟨m12, hv, hres⟩ := mm_b1_some hres
                  refine e_call0 (pc := 86) (L := [some (.inr (.inr (some (2, i0)))), some (.inr (.inr (some (1, 0)))), some (.inl a2), some (.inl a3), some (.inl w1), some (.inl v6), some (.inl v7), some (.inl v10)]) (st := []) (m' := m12) (v := none) rfl (k_X9_advance d (by omega)  _ _ hv) ?_
                  show mm_E (d + 1) 76 (86, [some (.inr (.inr (some (2, i0)))), some (.inr (.inr (some (1, 0)))), some (.inl a2), some (.inl a3), some (.inl w1), some (.inl v6), some (.inl v7), some (.inl v10)], [], m12) (.inl (some (.inl r.1)), r.2, 0, 0)
                  refine e_steps 6 (s' := (92, [some (.inr (.inr (some (2, i0)))), some (.inr (.inr (some (1, 0)))), some (.inl a2), some (.inl a3), some (.inl w1), some (.inl v6), some (.inl v7), some (.inl v10)], [.inl a3, .inl (a2 + 1), .inr (.inr (some (1, 0))), .inr (.inr (some (2, i0)))], m12)) rfl ?_
                  obtain ⟨r13, m14, hv, hres⟩ := mm_b2_some hres
                  refine e_call0 (pc := 95) (L := [some (.inr (.inr (some (2, i0)))), some (.inr (.inr (some (1, 0)))), some (.inl a2), some (.inl a3), some (.inl w1), some (.inl v6), some (.inl v7), some (.inl v10)]) (st := []) (m' := m14) (v := some (.inl r13)) rfl (hRF i0 (a2 + 1) a3 _ _ hv d (by omega)) ?_
                  show mm_E (d + 1) 76 (95, [some (.inr (.inr (some (2, i0)))), some (.inr (.inr (some (1, 0)))), some (.inl a2), some (.inl a3), some (.inl w1), some (.inl v6), some (.inl v7), some (.inl v10)], [.inl r13], m14) (.inl (some (.inl r.1)), r.2, 0, 0)
                  refine e_if (s1 := (112, [some (.inr (.inr (some (2, i0)))), some (.inr (.inr (some (1, 0)))), some (.inl a2), some (.inl a3), some (.inl w1), some (.inl v6), some (.inl v7), some (.inl v10)], [], m14)) (s2 := (98, [some (.inr (.inr (some (2, i0)))), some (.inr (.inr (some (1, 0)))), some (.inl a2), some (.inl a3), some (.inl w1), some (.inl v6), some (.inl v7), some (.inl v10)], [], m14)) rfl hres (fun hc hres => ?_) (fun hc hres => ?_)
                  · refine e_mask (L' := [some (.inr (.inr (some (2, i0)))), some (.inr (.inr (some (1, 0)))), some (.inl a2), some (.inl a3), some (.inl w1), none, some (.inl v7), none]) rfl ?_
                    refine e_steps 3 (s' := (118, [some (.inr (.inr (some (2, i0)))), some (.inr (.inr (some (1, 0)))), some (.inl a2), some (.inl a3), some (.inl w1), some (.inl 0), some (.inl (v7 + 1)), none], [], m14)) rfl ?_
                    refine e_let (fun (v15 : Int32) => (118, [some (.inr (.inr (some (2, i0)))), some (.inr (.inr (some (1, 0)))), some (.inl a2), some (.inl a3), some (.inl w1), some (.inl 0), some (.inl v15), none], [], m14)) hres (fun v15 hres => ?_)
                    refine e_steps 1 (s' := (53, [some (.inr (.inr (some (2, i0)))), some (.inr (.inr (some (1, 0)))), some (.inl a2), some (.inl a3), some (.inl w1), some (.inl 0), some (.inl v15), none], [], m14)) rfl ?_
                    obtain rfl := Option.some.inj hres
                    exact e_mask (L' := [some (.inr (.inr (some (2, i0)))), some (.inr (.inr (some (1, 0)))), some (.inl a2), some (.inl a3), some (.inl w1), some (.inl 0), some (.inl v15), none]) rfl (hcl5 _ rfl)
                  · refine e_steps 3 (s' := (102, [some (.inr (.inr (some (2, i0)))), some (.inr (.inr (some (1, 0)))), some (.inl a2), some (.inl a3), some (.inl w1), some (.inl v6), some (.inl v7), some (.inl v10)], [.inl 0, .inl v10, .inr (.inr (some (2, i0)))], m14)) rfl ?_
                    obtain ⟨r16, m17, hv, hres⟩ := mm_b2_some hres
                    refine e_call0 (pc := 105) (L := [some (.inr (.inr (some (2, i0)))), some (.inr (.inr (some (1, 0)))), some (.inl a2), some (.inl a3), some (.inl w1), some (.inl v6), some (.inl v7), some (.inl v10)]) (st := []) (m' := m17) (v := some (.inl r16)) rfl (k_X3_put d (by omega) i0 v10 0 _ _ hv) ?_
                    show mm_E (d + 1) 76 (105, [some (.inr (.inr (some (2, i0)))), some (.inr (.inr (some (1, 0)))), some (.inl a2), some (.inl a3), some (.inl w1), some (.inl v6), some (.inl v7), some (.inl v10)], [.inl r16], m17) (.inl (some (.inl r.1)), r.2, 0, 0)
                    refine e_if (s1 := (112, [some (.inr (.inr (some (2, i0)))), some (.inr (.inr (some (1, 0)))), some (.inl a2), some (.inl a3), some (.inl w1), some (.inl v6), some (.inl v7), some (.inl v10)], [], m17)) (s2 := (108, [some (.inr (.inr (some (2, i0)))), some (.inr (.inr (some (1, 0)))), some (.inl a2), some (.inl a3), some (.inl w1), some (.inl v6), some (.inl v7), some (.inl v10)], [], m17)) rfl hres (fun hc hres => ?_) (fun hc hres => ?_)
                    · refine e_mask (L' := [some (.inr (.inr (some (2, i0)))), some (.inr (.inr (some (1, 0)))), some (.inl a2), some (.inl a3), some (.inl w1), none, some (.inl v7), none]) rfl ?_
                      refine e_steps 3 (s' := (118, [some (.inr (.inr (some (2, i0)))), some (.inr (.inr (some (1, 0)))), some (.inl a2), some (.inl a3), some (.inl w1), some (.inl 0), some (.inl (v7 + 1)), none], [], m17)) rfl ?_
                      refine e_let (fun (v18 : Int32) => (118, [some (.inr (.inr (some (2, i0)))), some (.inr (.inr (some (1, 0)))), some (.inl a2), some (.inl a3), some (.inl w1), some (.inl 0), some (.inl v18), none], [], m17)) hres (fun v18 hres => ?_)
                      refine e_steps 1 (s' := (53, [some (.inr (.inr (some (2, i0)))), some (.inr (.inr (some (1, 0)))), some (.inl a2), some (.inl a3), some (.inl w1), some (.inl 0), some (.inl v18), none], [], m17)) rfl ?_
                      obtain rfl := Option.some.inj hres
                      exact e_mask (L' := [some (.inr (.inr (some (2, i0)))), some (.inr (.inr (some (1, 0)))), some (.inl a2), some (.inl a3), some (.inl w1), some (.inl 0), some (.inl v18), none]) rfl (hcl5 _ rfl)
                    · refine e_steps 2 (s' := (113, [some (.inr (.inr (some (2, i0)))), some (.inr (.inr (some (1, 0)))), some (.inl a2), some (.inl a3), some (.inl w1), some (.inl v6), some (.inl v7), some (.inl v10)], [.inl 1], m17)) rfl ?_
                      refine e_mask (L' := [some (.inr (.inr (some (2, i0)))), some (.inr (.inr (some (1, 0)))), some (.inl a2), some (.inl a3), some (.inl w1), none, some (.inl v7), none]) rfl ?_
                      refine e_steps 2 (s' := (118, [some (.inr (.inr (some (2, i0)))), some (.inr (.inr (some (1, 0)))), some (.inl a2), some (.inl a3), some (.inl w1), some (.inl 1), some (.inl (v7 + 1)), none], [], m17)) rfl ?_
                      refine e_let (fun (v19 : Int32) => (118, [some (.inr (.inr (some (2, i0)))), some (.inr (.inr (some (1, 0)))), some (.inl a2), some (.inl a3), some (.inl w1), some (.inl 1), some (.inl v19), none], [], m17)) hres (fun v19 hres => ?_)
                      refine e_steps 1 (s' := (53, [some (.inr (.inr (some (2, i0)))), some (.inr (.inr (some (1, 0)))), some (.inl a2), some (.inl a3), some (.inl w1), some (.inl 1), some (.inl v19), none], [], m17)) rfl ?_
                      obtain rfl := Option.some.inj hres
                      exact e_mask (L' := [some (.inr (.inr (some (2, i0)))), some (.inr (.inr (some (1, 0)))), some (.inl a2), some (.inl a3), some (.inl w1), some (.inl 1), some (.inl v19), none]) rfl (hcl5 _ rfl)
        · refine e_if (s1 := (34, [some (.inr (.inr (some (2, i0)))), some (.inr (.inr (some (1, 0)))), some (.inl a2), some (.inl a3), none, none, none, none], [], m)) (s2 := (30, [some (.inr (.inr (some (2, i0)))), some (.inr (.inr (some (1, 0)))), some (.inl a2), some (.inl a3), none, none, none, none], [], m)) rfl hres (fun hc hres => ?_) (fun hc hres => ?_)
          · refine e_steps 1 (s' := (37, [some (.inr (.inr (some (2, i0)))), some (.inr (.inr (some (1, 0)))), some (.inl a2), some (.inl a3), none, none, none, none], [.inl 400], m)) rfl ?_
            exact e_mask (L' := [some (.inr (.inr (some (2, i0)))), some (.inr (.inr (some (1, 0)))), some (.inl a2), some (.inl a3), none, none, none, none]) rfl (hk2 _ hres)
          · refine e_steps 2 (s' := (37, [some (.inr (.inr (some (2, i0)))), some (.inr (.inr (some (1, 0)))), some (.inl a2), some (.inl a3), none, none, none, none], [.inl 1], m)) rfl ?_
            exact e_mask (L' := [some (.inr (.inr (some (2, i0)))), some (.inr (.inr (some (1, 0)))), some (.inl a2), some (.inl a3), none, none, none, none]) rfl (hk2 _ hres)
      · refine e_steps 3 (s' := (21, [some (.inr (.inr (some (2, i0)))), some (.inr (.inr (some (1, 0)))), some (.inl a2), some (.inl a3), none, none, none, none], [.inl a3, .inr (.inr (some (1, 0))), .inr (.inr (some (2, i0)))], m)) rfl ?_
        obtain ⟨r22, m23, hv, hres⟩ := mm_b2_some hres
        refine e_call0 (pc := 24) (L := [some (.inr (.inr (some (2, i0)))), some (.inr (.inr (some (1, 0)))), some (.inl a2), some (.inl a3), none, none, none, none]) (st := []) (m' := m23) (v := some (.inl r22)) rfl (k_X3_readPoint (f_X3_readChain n) (1 + 3 * n) hRF (by omega) d (by omega) i0 a3 _ _ hv) ?_
        show mm_E (d + 1) 76 (24, [some (.inr (.inr (some (2, i0)))), some (.inr (.inr (some (1, 0)))), some (.inl a2), some (.inl a3), none, none, none, none], [.inl r22], m23) (.inl (some (.inl r.1)), r.2, 0, 0)
        refine e_gr (o := .inl (some (.inl r22))) rfl hres (fun hc hres => ?_)
        obtain rfl := Option.some.inj hres
        rfl
    · refine e_steps 3 (s' := (8, [some (.inr (.inr (some (2, i0)))), some (.inr (.inr (some (1, 0)))), some (.inl a2), some (.inl a3), none, none, none, none], [.inl a3, .inr (.inr (some (1, 0))), .inr (.inr (some (2, i0)))], m)) rfl ?_
      obtain ⟨r24, m25, hv, hres⟩ := mm_b2_some hres
      refine e_call0 (pc := 11) (L := [some (.inr (.inr (some (2, i0)))), some (.inr (.inr (some (1, 0)))), some (.inl a2), some (.inl a3), none, none, none, none]) (st := []) (m' := m25) (v := some (.inl r24)) rfl (k_X3_readNots (f_X3_readChain n) (1 + 3 * n) hRF (by omega) d (by omega) i0 a3 _ _ hv) ?_
      show mm_E (d + 1) 76 (11, [some (.inr (.inr (some (2, i0)))), some (.inr (.inr (some (1, 0)))), some (.inl a2), some (.inl a3), none, none, none, none], [.inl r24], m25) (.inl (some (.inl r.1)), r.2, 0, 0)
      refine e_gr (o := .inl (some (.inl r24))) rfl hres (fun hc hres => ?_)
      obtain rfl := Option.some.inj hres
      rfl
/-- GlassThreads$Law.readClause(LGlassThreads$Tape;I)Z -/
def f_X3_readClause (i0 : Nat) (a2 : Int32) (m : mm_M) : Option (Int32 × mm_M) :=
mm_b1 (f_X3_clauseKind (m 1 0 7) m) fun r1 =>
if r1 ≠ (-1) then (if a2 < 16 then (mm_b1 (f_X9_advance m) fun m3 =>
mm_let (m3 2 i0 2) fun v4 =>
mm_b2 (f_X3_readExpression (f_X3_readChain 64) i0 0 m3) fun r5 m6 =>
if r5 = 0 then (some (0, m6))
else (mm_b2 (f_X9_passSign 59 m6) fun r7 m8 =>
if r7 ≠ 0 then (if mm_in r1 4 then (
mm_let (mm_w m8 21 i0 r1.toNatClampNeg v4) fun m9 =>
if mm_in r1 4 then (
mm_let (mm_w m9 22 i0 r1.toNatClampNeg (m9 2 i0 2)) fun m10 =>
some (1, m10)) else none) else none)
else (some (0, m8))))
else (mm_b2 (f_X9_refuse 2 m) fun r11 m12 =>
if r11 = 0 ∨ r11 = 1 then some (r11, m12) else none))
else (mm_b2 (f_X9_refuse 1 m) fun r13 m14 =>
if r13 = 0 ∨ r13 = 1 then some (r13, m14) else none)
set_option maxHeartbeats 4000000 in
set_option maxRecDepth 100000 in
theorem k_X3_readClause (d : Nat) (hd : 195 ≤ d) (i0 : Nat) (a2 : Int32) (m : mm_M) (r : Int32 × mm_M) (hres : f_X3_readClause i0 a2 m = some r) : mm_X d 74 [.inr (.inr (some (2, i0))), .inr (.inr (some (1, 0))), .inl a2] m (.inl (some (.inl r.1)), r.2, 0, 0) := by
  unfold f_X3_readClause at hres
  obtain ⟨d, rfl⟩ : ∃ e, d = e + 1 := ⟨d - 1, by omega⟩
  show mm_E (d + 1) 74 (0, [some (.inr (.inr (some (2, i0)))), some (.inr (.inr (some (1, 0)))), some (.inl a2), none, none], [], m) (.inl (some (.inl r.1)), r.2, 0, 0)
  refine e_steps 2 (s' := (4, [some (.inr (.inr (some (2, i0)))), some (.inr (.inr (some (1, 0)))), some (.inl a2), none, none], [.inl (m 1 0 7)], m)) rfl ?_
  obtain ⟨r1, hv, hres⟩ := mm_b1_some hres
  refine e_call0 (pc := 7) (L := [some (.inr (.inr (some (2, i0)))), some (.inr (.inr (some (1, 0)))), some (.inl a2), none, none]) (st := []) (m' := m) (v := some (.inl r1)) rfl (k_X3_clauseKind d (by omega) (m 1 0 7) _ _ hv) ?_
  show mm_E (d + 1) 74 (7, [some (.inr (.inr (some (2, i0)))), some (.inr (.inr (some (1, 0)))), some (.inl a2), none, none], [.inl r1], m) (.inl (some (.inl r.1)), r.2, 0, 0)
  refine e_steps 3 (s' := (10, [some (.inr (.inr (some (2, i0)))), some (.inr (.inr (some (1, 0)))), some (.inl a2), some (.inl r1), none], [.inl (-1), .inl r1], m)) rfl ?_
  refine e_if (s1 := (19, [some (.inr (.inr (some (2, i0)))), some (.inr (.inr (some (1, 0)))), some (.inl a2), some (.inl r1), none], [], m)) (s2 := (13, [some (.inr (.inr (some (2, i0)))), some (.inr (.inr (some (1, 0)))), some (.inl a2), some (.inl r1), none], [], m)) rfl hres (fun hc hres => ?_) (fun hc hres => ?_)
  · refine e_steps 2 (s' := (22, [some (.inr (.inr (some (2, i0)))), some (.inr (.inr (some (1, 0)))), some (.inl a2), some (.inl r1), none], [.inl 16, .inl a2], m)) rfl ?_
    refine e_if (s1 := (31, [some (.inr (.inr (some (2, i0)))), some (.inr (.inr (some (1, 0)))), some (.inl a2), some (.inl r1), none], [], m)) (s2 := (25, [some (.inr (.inr (some (2, i0)))), some (.inr (.inr (some (1, 0)))), some (.inl a2), some (.inl r1), none], [], m)) rfl hres (fun hc hres => ?_) (fun hc hres => ?_)
    · refine e_steps 1 (s' := (32, [some (.inr (.inr (some (2, i0)))), some (.inr (.inr (some (1, 0)))), some (.inl a2), some (.inl r1), none], [.inr (.inr (some (1, 0)))], m)) rfl ?_
      obtain ⟨m3, hv, hres⟩ := mm_b1_some hres
      refine e_call0 (pc := 35) (L := [some (.inr (.inr (some (2, i0)))), some (.inr (.inr (some (1, 0)))), some (.inl a2), some (.inl r1), none]) (st := []) (m' := m3) (v := none) rfl (k_X9_advance d (by omega)  _ _ hv) ?_
      show mm_E (d + 1) 74 (35, [some (.inr (.inr (some (2, i0)))), some (.inr (.inr (some (1, 0)))), some (.inl a2), some (.inl r1), none], [], m3) (.inl (some (.inl r.1)), r.2, 0, 0)
      refine e_steps 3 (s' := (41, [some (.inr (.inr (some (2, i0)))), some (.inr (.inr (some (1, 0)))), some (.inl a2), some (.inl r1), some (.inl (m3 2 i0 2))], [], m3)) rfl ?_
      refine e_let (fun (v4 : Int32) => (41, [some (.inr (.inr (some (2, i0)))), some (.inr (.inr (some (1, 0)))), some (.inl a2), some (.inl r1), some (.inl v4)], [], m3)) hres (fun v4 hres => ?_)
      refine e_steps 3 (s' := (44, [some (.inr (.inr (some (2, i0)))), some (.inr (.inr (some (1, 0)))), some (.inl a2), some (.inl r1), some (.inl v4)], [.inl 0, .inr (.inr (some (1, 0))), .inr (.inr (some (2, i0)))], m3)) rfl ?_
      obtain ⟨r5, m6, hv, hres⟩ := mm_b2_some hres
      refine e_call0 (pc := 47) (L := [some (.inr (.inr (some (2, i0)))), some (.inr (.inr (some (1, 0)))), some (.inl a2), some (.inl r1), some (.inl v4)]) (st := []) (m' := m6) (v := some (.inl r5)) rfl (k_X3_readExpression (f_X3_readChain 64) (193) (fun i0 a2 a3 m r h d hd => k_X3_readChain 64 d hd i0 a2 a3 m r h) (by omega) d (by omega) i0 0 _ _ hv) ?_
      show mm_E (d + 1) 74 (47, [some (.inr (.inr (some (2, i0)))), some (.inr (.inr (some (1, 0)))), some (.inl a2), some (.inl r1), some (.inl v4)], [.inl r5], m6) (.inl (some (.inl r.1)), r.2, 0, 0)
      refine e_if (s1 := (59, [some (.inr (.inr (some (2, i0)))), some (.inr (.inr (some (1, 0)))), some (.inl a2), some (.inl r1), some (.inl v4)], [], m6)) (s2 := (50, [some (.inr (.inr (some (2, i0)))), some (.inr (.inr (some (1, 0)))), some (.inl a2), some (.inl r1), some (.inl v4)], [], m6)) rfl hres (fun hc hres => ?_) (fun hc hres => ?_)
      · refine e_mask (L' := [none, none, none, none, none]) rfl ?_
        refine e_steps 1 (s' := (60, [none, none, none, none, none], [.inl 0], m6)) rfl ?_
        obtain rfl := Option.some.inj hres
        exact e_ret rfl rfl
      · refine e_steps 2 (s' := (53, [some (.inr (.inr (some (2, i0)))), some (.inr (.inr (some (1, 0)))), some (.inl a2), some (.inl r1), some (.inl v4)], [.inl 59, .inr (.inr (some (1, 0)))], m6)) rfl ?_
        obtain ⟨r7, m8, hv, hres⟩ := mm_b2_some hres
        refine e_call0 (pc := 56) (L := [some (.inr (.inr (some (2, i0)))), some (.inr (.inr (some (1, 0)))), some (.inl a2), some (.inl r1), some (.inl v4)]) (st := []) (m' := m8) (v := some (.inl r7)) rfl (k_X9_passSign d (by omega) 59 _ _ hv) ?_
        show mm_E (d + 1) 74 (56, [some (.inr (.inr (some (2, i0)))), some (.inr (.inr (some (1, 0)))), some (.inl a2), some (.inl r1), some (.inl v4)], [.inl r7], m8) (.inl (some (.inl r.1)), r.2, 0, 0)
        refine e_if (s1 := (61, [some (.inr (.inr (some (2, i0)))), some (.inr (.inr (some (1, 0)))), some (.inl a2), some (.inl r1), some (.inl v4)], [], m8)) (s2 := (59, [some (.inr (.inr (some (2, i0)))), some (.inr (.inr (some (1, 0)))), some (.inl a2), some (.inl r1), some (.inl v4)], [], m8)) rfl hres (fun hc hres => ?_) (fun hc hres => ?_)
        · refine e_steps 4 (s' := (68, [some (.inr (.inr (some (2, i0)))), some (.inr (.inr (some (1, 0)))), some (.inl a2), some (.inl r1), some (.inl v4)], [.inl v4, .inl r1, .inr (.inr (some (21, i0)))], m8)) rfl ?_
          refine e_gd (s1 := (69, [some (.inr (.inr (some (2, i0)))), some (.inr (.inr (some (1, 0)))), some (.inl a2), some (.inl r1), some (.inl v4)], [], (mm_w m8 21 i0 r1.toNatClampNeg v4))) rfl hres (fun hc hres => ?_)
          refine e_let (fun (m9 : mm_M) => (69, [some (.inr (.inr (some (2, i0)))), some (.inr (.inr (some (1, 0)))), some (.inl a2), some (.inl r1), some (.inl v4)], [], m9)) hres (fun m9 hres => ?_)
          refine e_steps 5 (s' := (78, [some (.inr (.inr (some (2, i0)))), some (.inr (.inr (some (1, 0)))), some (.inl a2), some (.inl r1), some (.inl v4)], [.inl (m9 2 i0 2), .inl r1, .inr (.inr (some (22, i0)))], m9)) rfl ?_
          refine e_gd (s1 := (79, [some (.inr (.inr (some (2, i0)))), some (.inr (.inr (some (1, 0)))), some (.inl a2), some (.inl r1), some (.inl v4)], [], (mm_w m9 22 i0 r1.toNatClampNeg (m9 2 i0 2)))) rfl hres (fun hc hres => ?_)
          refine e_let (fun (m10 : mm_M) => (79, [some (.inr (.inr (some (2, i0)))), some (.inr (.inr (some (1, 0)))), some (.inl a2), some (.inl r1), some (.inl v4)], [], m10)) hres (fun m10 hres => ?_)
          refine e_steps 1 (s' := (80, [some (.inr (.inr (some (2, i0)))), some (.inr (.inr (some (1, 0)))), some (.inl a2), some (.inl r1), some (.inl v4)], [.inl 1], m10)) rfl ?_
          obtain rfl := Option.some.inj hres
          exact e_ret rfl rfl
        · refine e_mask (L' := [none, none, none, none, none]) rfl ?_
          refine e_steps 1 (s' := (60, [none, none, none, none, none], [.inl 0], m8)) rfl ?_
          obtain rfl := Option.some.inj hres
          exact e_ret rfl rfl
    · refine e_steps 2 (s' := (27, [some (.inr (.inr (some (2, i0)))), some (.inr (.inr (some (1, 0)))), some (.inl a2), some (.inl r1), none], [.inl 2, .inr (.inr (some (1, 0)))], m)) rfl ?_
      obtain ⟨r11, m12, hv, hres⟩ := mm_b2_some hres
      refine e_call0 (pc := 30) (L := [some (.inr (.inr (some (2, i0)))), some (.inr (.inr (some (1, 0)))), some (.inl a2), some (.inl r1), none]) (st := []) (m' := m12) (v := some (.inl r11)) rfl (k_X9_refuse d (by omega) 2 _ _ hv) ?_
      show mm_E (d + 1) 74 (30, [some (.inr (.inr (some (2, i0)))), some (.inr (.inr (some (1, 0)))), some (.inl a2), some (.inl r1), none], [.inl r11], m12) (.inl (some (.inl r.1)), r.2, 0, 0)
      refine e_gr (o := .inl (some (.inl r11))) rfl hres (fun hc hres => ?_)
      obtain rfl := Option.some.inj hres
      rfl
  · refine e_steps 2 (s' := (15, [some (.inr (.inr (some (2, i0)))), some (.inr (.inr (some (1, 0)))), some (.inl a2), some (.inl r1), none], [.inl 1, .inr (.inr (some (1, 0)))], m)) rfl ?_
    obtain ⟨r13, m14, hv, hres⟩ := mm_b2_some hres
    refine e_call0 (pc := 18) (L := [some (.inr (.inr (some (2, i0)))), some (.inr (.inr (some (1, 0)))), some (.inl a2), some (.inl r1), none]) (st := []) (m' := m14) (v := some (.inl r13)) rfl (k_X9_refuse d (by omega) 1 _ _ hv) ?_
    show mm_E (d + 1) 74 (18, [some (.inr (.inr (some (2, i0)))), some (.inr (.inr (some (1, 0)))), some (.inl a2), some (.inl r1), none], [.inl r13], m14) (.inl (some (.inl r.1)), r.2, 0, 0)
    refine e_gr (o := .inl (some (.inl r13))) rfl hres (fun hc hres => ?_)
    obtain rfl := Option.some.inj hres
    rfl
/-- GlassThreads$Law.readFrom(LGlassThreads$Tape;)Z -/
def f_X3_readFrom (i0 : Nat) (m : mm_M) : Option (Int32 × mm_M) :=
mm_let (mm_w m 2 i0 2 0) fun m1 =>
mm_b1 (f_J_fill_g21 i0 (-1) m1) fun m3 =>
(mm_b1 (mm_loop (σ := Int32 × Int32 × mm_M) (ρ := (Int32 × mm_M)) (fun (s : Int32 × Int32 × mm_M) => match s with
| (v5, v6, m7) => (if 16 < v6 then (some (.inr (v5, m7)))
else (if v5 = 0 then (some (.inr (v5, m7)))
else (if (m7 1 0 7) = 0 then (some (.inr (v5, m7)))
else (mm_b2 (f_X3_readClause i0 v6 m7) fun r8 m9 =>
mm_let (v6 + 1) fun v10 =>
some (.inl (r8, v10, m9))))) : Option ((Int32 × Int32 × mm_M) ⊕ ((Int32 × mm_M))))) mm_fu (1, 0, m3)) fun t => match t with
| (v11, m12) => if v11 = 0 ∨ v11 = 1 then some (v11, m12) else none)
set_option maxHeartbeats 4000000 in
set_option maxRecDepth 100000 in
theorem k_X3_readFrom (d : Nat) (hd : 196 ≤ d) (i0 : Nat) (m : mm_M) (r : Int32 × mm_M) (hres : f_X3_readFrom i0 m = some r) : mm_X d 73 [.inr (.inr (some (2, i0))), .inr (.inr (some (1, 0)))] m (.inl (some (.inl r.1)), r.2, 0, 0) := by
  unfold f_X3_readFrom at hres
  obtain ⟨d, rfl⟩ : ∃ e, d = e + 1 := ⟨d - 1, by omega⟩
  show mm_E (d + 1) 73 (0, [some (.inr (.inr (some (2, i0)))), some (.inr (.inr (some (1, 0)))), none, none], [], m) (.inl (some (.inl r.1)), r.2, 0, 0)
  refine e_steps 3 (s' := (5, [some (.inr (.inr (some (2, i0)))), some (.inr (.inr (some (1, 0)))), none, none], [], (mm_w m 2 i0 2 0))) rfl ?_
  refine e_let (fun (m1 : mm_M) => (5, [some (.inr (.inr (some (2, i0)))), some (.inr (.inr (some (1, 0)))), none, none], [], m1)) hres (fun m1 hres => ?_)
  refine e_steps 3 (s' := (10, [some (.inr (.inr (some (2, i0)))), some (.inr (.inr (some (1, 0)))), none, none], [.inl (-1), .inr (.inr (some (21, i0)))], m1)) rfl ?_
  obtain ⟨m3, hv, hres⟩ := mm_b1_some hres
  refine e_call0 (pc := 13) (L := [some (.inr (.inr (some (2, i0)))), some (.inr (.inr (some (1, 0)))), none, none]) (st := []) (m' := m3) (v := none) rfl (k_J_fill_g21 d (by omega) i0 (-1) _ _ hv) ?_
  show mm_E (d + 1) 73 (13, [some (.inr (.inr (some (2, i0)))), some (.inr (.inr (some (1, 0)))), none, none], [], m3) (.inl (some (.inl r.1)), r.2, 0, 0)
  refine e_steps 4 (s' := (17, [some (.inr (.inr (some (2, i0)))), some (.inr (.inr (some (1, 0)))), some (.inl 1), some (.inl 0)], [], m3)) rfl ?_
  refine e_mask (L' := [some (.inr (.inr (some (2, i0)))), some (.inr (.inr (some (1, 0)))), some (.inl 1), some (.inl 0)]) rfl ?_
  refine e_loopb (φ := fun s => (17, [some (.inr (.inr (some (2, i0)))), some (.inr (.inr (some (1, 0)))), some (.inl s.1), some (.inl s.2.1)], [], s.2.2)) (K := fun t => mm_E (d + 1) 73 (47, [none, none, some (.inl t.1), none], [], t.2) (.inl (some (.inl r.1)), r.2, 0, 0)) hres (fun t hres => ?_) (fun s ol4 hres hcl4 hxl4 => ?_)
  · obtain ⟨v11, m12⟩ := t
    show mm_E (d + 1) 73 (47, [none, none, some (.inl v11), none], [], m12) (.inl (some (.inl r.1)), r.2, 0, 0)
    refine e_steps 1 (s' := (48, [none, none, some (.inl v11), none], [.inl v11], m12)) rfl ?_
    refine e_gr (o := .inl (some (.inl v11))) rfl hres (fun hc hres => ?_)
    obtain rfl := Option.some.inj hres
    rfl
  · obtain ⟨v5, v6, m7⟩ := s
    show mm_E (d + 1) 73 (17, [some (.inr (.inr (some (2, i0)))), some (.inr (.inr (some (1, 0)))), some (.inl v5), some (.inl v6)], [], m7) (.inl (some (.inl r.1)), r.2, 0, 0)
    refine e_steps 2 (s' := (20, [some (.inr (.inr (some (2, i0)))), some (.inr (.inr (some (1, 0)))), some (.inl v5), some (.inl v6)], [.inl 16, .inl v6], m7)) rfl ?_
    refine e_if (s1 := (47, [some (.inr (.inr (some (2, i0)))), some (.inr (.inr (some (1, 0)))), some (.inl v5), some (.inl v6)], [], m7)) (s2 := (23, [some (.inr (.inr (some (2, i0)))), some (.inr (.inr (some (1, 0)))), some (.inl v5), some (.inl v6)], [], m7)) rfl hres (fun hc hres => ?_) (fun hc hres => ?_)
    · obtain rfl := Option.some.inj hres
      exact e_mask (L' := [none, none, some (.inl v5), none]) rfl (hxl4 _ rfl)
    · refine e_steps 1 (s' := (24, [some (.inr (.inr (some (2, i0)))), some (.inr (.inr (some (1, 0)))), some (.inl v5), some (.inl v6)], [.inl v5], m7)) rfl ?_
      refine e_if (s1 := (47, [some (.inr (.inr (some (2, i0)))), some (.inr (.inr (some (1, 0)))), some (.inl v5), some (.inl v6)], [], m7)) (s2 := (27, [some (.inr (.inr (some (2, i0)))), some (.inr (.inr (some (1, 0)))), some (.inl v5), some (.inl v6)], [], m7)) rfl hres (fun hc hres => ?_) (fun hc hres => ?_)
      · obtain rfl := Option.some.inj hres
        exact e_mask (L' := [none, none, some (.inl v5), none]) rfl (hxl4 _ rfl)
      · refine e_steps 2 (s' := (31, [some (.inr (.inr (some (2, i0)))), some (.inr (.inr (some (1, 0)))), some (.inl v5), some (.inl v6)], [.inl (m7 1 0 7)], m7)) rfl ?_
        refine e_if (s1 := (47, [some (.inr (.inr (some (2, i0)))), some (.inr (.inr (some (1, 0)))), some (.inl v5), some (.inl v6)], [], m7)) (s2 := (34, [some (.inr (.inr (some (2, i0)))), some (.inr (.inr (some (1, 0)))), some (.inl v5), some (.inl v6)], [], m7)) rfl hres (fun hc hres => ?_) (fun hc hres => ?_)
        · obtain rfl := Option.some.inj hres
          exact e_mask (L' := [none, none, some (.inl v5), none]) rfl (hxl4 _ rfl)
        · refine e_steps 3 (s' := (37, [some (.inr (.inr (some (2, i0)))), some (.inr (.inr (some (1, 0)))), some (.inl v5), some (.inl v6)], [.inl v6, .inr (.inr (some (1, 0))), .inr (.inr (some (2, i0)))], m7)) rfl ?_
          obtain ⟨r8, m9, hv, hres⟩ := mm_b2_some hres
          refine e_call0 (pc := 40) (L := [some (.inr (.inr (some (2, i0)))), some (.inr (.inr (some (1, 0)))), some (.inl v5), some (.inl v6)]) (st := []) (m' := m9) (v := some (.inl r8)) rfl (k_X3_readClause d (by omega) i0 v6 _ _ hv) ?_
          show mm_E (d + 1) 73 (40, [some (.inr (.inr (some (2, i0)))), some (.inr (.inr (some (1, 0)))), some (.inl v5), some (.inl v6)], [.inl r8], m9) (.inl (some (.inl r.1)), r.2, 0, 0)
          refine e_steps 2 (s' := (44, [some (.inr (.inr (some (2, i0)))), some (.inr (.inr (some (1, 0)))), some (.inl r8), some (.inl (v6 + 1))], [], m9)) rfl ?_
          refine e_let (fun (v10 : Int32) => (44, [some (.inr (.inr (some (2, i0)))), some (.inr (.inr (some (1, 0)))), some (.inl r8), some (.inl v10)], [], m9)) hres (fun v10 hres => ?_)
          refine e_steps 1 (s' := (17, [some (.inr (.inr (some (2, i0)))), some (.inr (.inr (some (1, 0)))), some (.inl r8), some (.inl v10)], [], m9)) rfl ?_
          obtain rfl := Option.some.inj hres
          exact e_mask (L' := [some (.inr (.inr (some (2, i0)))), some (.inr (.inr (some (1, 0)))), some (.inl r8), some (.inl v10)]) rfl (hcl4 _ rfl)
/-- GlassThreads$Law.truth(Z)I -/
def f_X3_truth (a0 : Int32) (m : mm_M) : Option (Int32) :=
if a0 = 0 then (some 0)
else (some 1)
set_option maxHeartbeats 4000000 in
set_option maxRecDepth 100000 in
theorem k_X3_truth (d : Nat) (hd : 0 ≤ d) (a0 : Int32) (m : mm_M) (r : Int32) (hres : f_X3_truth a0 m = some r) : mm_X d 88 [.inl a0] m (.inl (some (.inl r)), m, 0, 0) := by
  unfold f_X3_truth at hres
  show mm_E d 88 (0, [some (.inl a0)], [], m) (.inl (some (.inl r)), m, 0, 0)
  refine e_steps 1 (s' := (1, [some (.inl a0)], [.inl a0], m)) rfl ?_
  refine e_if (s1 := (8, [some (.inl a0)], [], m)) (s2 := (4, [some (.inl a0)], [], m)) rfl hres (fun hc hres => ?_) (fun hc hres => ?_)
  · refine e_steps 1 (s' := (9, [some (.inl a0)], [.inl 0], m)) rfl ?_
    refine e_mask (L' := [none]) rfl ?_
    obtain rfl := Option.some.inj hres
    exact e_ret rfl rfl
  · refine e_steps 2 (s' := (9, [some (.inl a0)], [.inl 1], m)) rfl ?_
    refine e_mask (L' := [none]) rfl ?_
    obtain rfl := Option.some.inj hres
    exact e_ret rfl rfl
/-- GlassThreads$Law.joined(III)I -/
def f_X3_joined (a0 : Int32) (a1 : Int32) (a2 : Int32) (m : mm_M) : Option (Int32) :=
if a0 = 42 then (some (a1 * a2))
else if a0 = 43 then (some (a1 + a2))
else if a0 = 45 then (some (a1 - a2))
else if a0 = 47 then (if a2 ≠ 0 then (if a2 = 0 then none else (
some (a1 / a2)))
else (some 0))
else if a0 = 60 then (if a2 ≤ a1 then (mm_b1 (f_X3_truth 0 m) fun r1 =>
some r1)
else (mm_b1 (f_X3_truth 1 m) fun r2 =>
some r2))
else if a0 = 61 then (if a1 ≠ a2 then (mm_b1 (f_X3_truth 0 m) fun r3 =>
some r3)
else (mm_b1 (f_X3_truth 1 m) fun r4 =>
some r4))
else if a0 = 262 then (if a1 = 0 then (mm_b1 (f_X3_truth 0 m) fun r5 =>
some r5)
else (if a2 = 0 then (mm_b1 (f_X3_truth 0 m) fun r6 =>
some r6)
else (mm_b1 (f_X3_truth 1 m) fun r7 =>
some r7)))
else (if a1 ≠ 0 then (mm_b1 (f_X3_truth 1 m) fun r8 =>
some r8)
else (if a2 = 0 then (mm_b1 (f_X3_truth 0 m) fun r9 =>
some r9)
else (mm_b1 (f_X3_truth 1 m) fun r10 =>
some r10)))
set_option maxHeartbeats 4000000 in
set_option maxRecDepth 100000 in
theorem k_X3_joined (d : Nat) (hd : 1 ≤ d) (a0 : Int32) (a1 : Int32) (a2 : Int32) (m : mm_M) (r : Int32) (hres : f_X3_joined a0 a1 a2 m = some r) : mm_X d 82 [.inl a0, .inl a1, .inl a2] m (.inl (some (.inl r)), m, 0, 0) := by
  unfold f_X3_joined at hres
  obtain ⟨d, rfl⟩ : ∃ e, d = e + 1 := ⟨d - 1, by omega⟩
  show mm_E (d + 1) 82 (0, [some (.inl a0), some (.inl a1), some (.inl a2)], [], m) (.inl (some (.inl r)), m, 0, 0)
  refine e_steps 1 (s' := (1, [some (.inl a0), some (.inl a1), some (.inl a2)], [.inl a0], m)) rfl ?_
  refine e_sw (c := a0 = 42) (s1 := (76, [some (.inl a0), some (.inl a1), some (.inl a2)], [], m)) rfl hres (fun hc hres => ?_) (fun hc hres hst => ?_)
  · refine e_steps 3 (s' := (79, [some (.inl a0), some (.inl a1), some (.inl a2)], [.inl (a1 * a2)], m)) rfl ?_
    obtain rfl := Option.some.inj hres
    exact e_ret rfl rfl
  · refine e_sw (c := a0 = 43) (s1 := (68, [some (.inl a0), some (.inl a1), some (.inl a2)], [], m)) hst hres (fun hc hres => ?_) (fun hc hres hst => ?_)
    · refine e_steps 3 (s' := (71, [some (.inl a0), some (.inl a1), some (.inl a2)], [.inl (a1 + a2)], m)) rfl ?_
      obtain rfl := Option.some.inj hres
      exact e_ret rfl rfl
    · refine e_sw (c := a0 = 45) (s1 := (72, [some (.inl a0), some (.inl a1), some (.inl a2)], [], m)) hst hres (fun hc hres => ?_) (fun hc hres hst => ?_)
      · refine e_steps 3 (s' := (75, [some (.inl a0), some (.inl a1), some (.inl a2)], [.inl (a1 - a2)], m)) rfl ?_
        obtain rfl := Option.some.inj hres
        exact e_ret rfl rfl
      · refine e_sw (c := a0 = 47) (s1 := (80, [some (.inl a0), some (.inl a1), some (.inl a2)], [], m)) hst hres (fun hc hres => ?_) (fun hc hres hst => ?_)
        · refine e_steps 1 (s' := (81, [some (.inl a0), some (.inl a1), some (.inl a2)], [.inl a2], m)) rfl ?_
          refine e_if (s1 := (88, [some (.inl a0), some (.inl a1), some (.inl a2)], [], m)) (s2 := (84, [some (.inl a0), some (.inl a1), some (.inl a2)], [], m)) rfl hres (fun hc hres => ?_) (fun hc hres => ?_)
          · refine e_steps 2 (s' := (90, [some (.inl a0), some (.inl a1), some (.inl a2)], [.inl a2, .inl a1], m)) rfl ?_
            refine e_gn (s1 := (91, [some (.inl a0), some (.inl a1), some (.inl a2)], [.inl (a1 / a2)], m)) rfl hres (fun hc hres => ?_)
            refine e_mask (L' := [none, none, none]) rfl ?_
            obtain rfl := Option.some.inj hres
            exact e_ret rfl rfl
          · refine e_steps 2 (s' := (91, [some (.inl a0), some (.inl a1), some (.inl a2)], [.inl 0], m)) rfl ?_
            refine e_mask (L' := [none, none, none]) rfl ?_
            obtain rfl := Option.some.inj hres
            exact e_ret rfl rfl
        · refine e_sw (c := a0 = 60) (s1 := (92, [some (.inl a0), some (.inl a1), some (.inl a2)], [], m)) hst hres (fun hc hres => ?_) (fun hc hres hst => ?_)
          · refine e_steps 2 (s' := (94, [some (.inl a0), some (.inl a1), some (.inl a2)], [.inl a2, .inl a1], m)) rfl ?_
            refine e_if (s1 := (101, [some (.inl a0), some (.inl a1), some (.inl a2)], [], m)) (s2 := (97, [some (.inl a0), some (.inl a1), some (.inl a2)], [], m)) rfl hres (fun hc hres => ?_) (fun hc hres => ?_)
            · refine e_steps 1 (s' := (102, [some (.inl a0), some (.inl a1), some (.inl a2)], [.inl 0], m)) rfl ?_
              refine e_mask (L' := [none, none, none]) rfl ?_
              obtain ⟨r1, hv, hres⟩ := mm_b1_some hres
              refine e_call0 (pc := 105) (L := [none, none, none]) (st := []) (m' := m) (v := some (.inl r1)) rfl (k_X3_truth d (by omega) 0 _ _ hv) ?_
              show mm_E (d + 1) 82 (105, [none, none, none], [.inl r1], m) (.inl (some (.inl r)), m, 0, 0)
              obtain rfl := Option.some.inj hres
              exact e_ret rfl rfl
            · refine e_steps 2 (s' := (102, [some (.inl a0), some (.inl a1), some (.inl a2)], [.inl 1], m)) rfl ?_
              refine e_mask (L' := [none, none, none]) rfl ?_
              obtain ⟨r2, hv, hres⟩ := mm_b1_some hres
              refine e_call0 (pc := 105) (L := [none, none, none]) (st := []) (m' := m) (v := some (.inl r2)) rfl (k_X3_truth d (by omega) 1 _ _ hv) ?_
              show mm_E (d + 1) 82 (105, [none, none, none], [.inl r2], m) (.inl (some (.inl r)), m, 0, 0)
              obtain rfl := Option.some.inj hres
              exact e_ret rfl rfl
          · refine e_sw (c := a0 = 61) (s1 := (106, [some (.inl a0), some (.inl a1), some (.inl a2)], [], m)) hst hres (fun hc hres => ?_) (fun hc hres hst => ?_)
            · refine e_steps 2 (s' := (108, [some (.inl a0), some (.inl a1), some (.inl a2)], [.inl a2, .inl a1], m)) rfl ?_
              refine e_if (s1 := (115, [some (.inl a0), some (.inl a1), some (.inl a2)], [], m)) (s2 := (111, [some (.inl a0), some (.inl a1), some (.inl a2)], [], m)) rfl hres (fun hc hres => ?_) (fun hc hres => ?_)
              · refine e_steps 1 (s' := (116, [some (.inl a0), some (.inl a1), some (.inl a2)], [.inl 0], m)) rfl ?_
                refine e_mask (L' := [none, none, none]) rfl ?_
                obtain ⟨r3, hv, hres⟩ := mm_b1_some hres
                refine e_call0 (pc := 119) (L := [none, none, none]) (st := []) (m' := m) (v := some (.inl r3)) rfl (k_X3_truth d (by omega) 0 _ _ hv) ?_
                show mm_E (d + 1) 82 (119, [none, none, none], [.inl r3], m) (.inl (some (.inl r)), m, 0, 0)
                obtain rfl := Option.some.inj hres
                exact e_ret rfl rfl
              · refine e_steps 2 (s' := (116, [some (.inl a0), some (.inl a1), some (.inl a2)], [.inl 1], m)) rfl ?_
                refine e_mask (L' := [none, none, none]) rfl ?_
                obtain ⟨r4, hv, hres⟩ := mm_b1_some hres
                refine e_call0 (pc := 119) (L := [none, none, none]) (st := []) (m' := m) (v := some (.inl r4)) rfl (k_X3_truth d (by omega) 1 _ _ hv) ?_
                show mm_E (d + 1) 82 (119, [none, none, none], [.inl r4], m) (.inl (some (.inl r)), m, 0, 0)
                obtain rfl := Option.some.inj hres
                exact e_ret rfl rfl
            · refine e_sw (c := a0 = 262) (s1 := (120, [some (.inl a0), some (.inl a1), some (.inl a2)], [], m)) hst hres (fun hc hres => ?_) (fun hc hres hst => ?_)
              · refine e_steps 1 (s' := (121, [some (.inl a0), some (.inl a1), some (.inl a2)], [.inl a1], m)) rfl ?_
                refine e_if (s1 := (132, [some (.inl a0), some (.inl a1), some (.inl a2)], [], m)) (s2 := (124, [some (.inl a0), some (.inl a1), some (.inl a2)], [], m)) rfl hres (fun hc hres => ?_) (fun hc hres => ?_)
                · refine e_mask (L' := [none, none, none]) rfl ?_
                  refine e_steps 1 (s' := (133, [none, none, none], [.inl 0], m)) rfl ?_
                  obtain ⟨r5, hv, hres⟩ := mm_b1_some hres
                  refine e_call0 (pc := 136) (L := [none, none, none]) (st := []) (m' := m) (v := some (.inl r5)) rfl (k_X3_truth d (by omega) 0 _ _ hv) ?_
                  show mm_E (d + 1) 82 (136, [none, none, none], [.inl r5], m) (.inl (some (.inl r)), m, 0, 0)
                  obtain rfl := Option.some.inj hres
                  exact e_ret rfl rfl
                · refine e_steps 1 (s' := (125, [some (.inl a0), some (.inl a1), some (.inl a2)], [.inl a2], m)) rfl ?_
                  refine e_if (s1 := (132, [some (.inl a0), some (.inl a1), some (.inl a2)], [], m)) (s2 := (128, [some (.inl a0), some (.inl a1), some (.inl a2)], [], m)) rfl hres (fun hc hres => ?_) (fun hc hres => ?_)
                  · refine e_mask (L' := [none, none, none]) rfl ?_
                    refine e_steps 1 (s' := (133, [none, none, none], [.inl 0], m)) rfl ?_
                    obtain ⟨r6, hv, hres⟩ := mm_b1_some hres
                    refine e_call0 (pc := 136) (L := [none, none, none]) (st := []) (m' := m) (v := some (.inl r6)) rfl (k_X3_truth d (by omega) 0 _ _ hv) ?_
                    show mm_E (d + 1) 82 (136, [none, none, none], [.inl r6], m) (.inl (some (.inl r)), m, 0, 0)
                    obtain rfl := Option.some.inj hres
                    exact e_ret rfl rfl
                  · refine e_steps 2 (s' := (133, [some (.inl a0), some (.inl a1), some (.inl a2)], [.inl 1], m)) rfl ?_
                    refine e_mask (L' := [none, none, none]) rfl ?_
                    obtain ⟨r7, hv, hres⟩ := mm_b1_some hres
                    refine e_call0 (pc := 136) (L := [none, none, none]) (st := []) (m' := m) (v := some (.inl r7)) rfl (k_X3_truth d (by omega) 1 _ _ hv) ?_
                    show mm_E (d + 1) 82 (136, [none, none, none], [.inl r7], m) (.inl (some (.inl r)), m, 0, 0)
                    obtain rfl := Option.some.inj hres
                    exact e_ret rfl rfl
              · refine e_step (s' := (137, [some (.inl a0), some (.inl a1), some (.inl a2)], [], m)) hst ?_
                refine e_steps 1 (s' := (138, [some (.inl a0), some (.inl a1), some (.inl a2)], [.inl a1], m)) rfl ?_
                refine e_if (s1 := (145, [some (.inl a0), some (.inl a1), some (.inl a2)], [], m)) (s2 := (141, [some (.inl a0), some (.inl a1), some (.inl a2)], [], m)) rfl hres (fun hc hres => ?_) (fun hc hres => ?_)
                · refine e_mask (L' := [none, none, none]) rfl ?_
                  refine e_steps 2 (s' := (150, [none, none, none], [.inl 1], m)) rfl ?_
                  obtain ⟨r8, hv, hres⟩ := mm_b1_some hres
                  refine e_call0 (pc := 153) (L := [none, none, none]) (st := []) (m' := m) (v := some (.inl r8)) rfl (k_X3_truth d (by omega) 1 _ _ hv) ?_
                  show mm_E (d + 1) 82 (153, [none, none, none], [.inl r8], m) (.inl (some (.inl r)), m, 0, 0)
                  obtain rfl := Option.some.inj hres
                  exact e_ret rfl rfl
                · refine e_steps 1 (s' := (142, [some (.inl a0), some (.inl a1), some (.inl a2)], [.inl a2], m)) rfl ?_
                  refine e_if (s1 := (149, [some (.inl a0), some (.inl a1), some (.inl a2)], [], m)) (s2 := (145, [some (.inl a0), some (.inl a1), some (.inl a2)], [], m)) rfl hres (fun hc hres => ?_) (fun hc hres => ?_)
                  · refine e_steps 1 (s' := (150, [some (.inl a0), some (.inl a1), some (.inl a2)], [.inl 0], m)) rfl ?_
                    refine e_mask (L' := [none, none, none]) rfl ?_
                    obtain ⟨r9, hv, hres⟩ := mm_b1_some hres
                    refine e_call0 (pc := 153) (L := [none, none, none]) (st := []) (m' := m) (v := some (.inl r9)) rfl (k_X3_truth d (by omega) 0 _ _ hv) ?_
                    show mm_E (d + 1) 82 (153, [none, none, none], [.inl r9], m) (.inl (some (.inl r)), m, 0, 0)
                    obtain rfl := Option.some.inj hres
                    exact e_ret rfl rfl
                  · refine e_mask (L' := [none, none, none]) rfl ?_
                    refine e_steps 2 (s' := (150, [none, none, none], [.inl 1], m)) rfl ?_
                    obtain ⟨r10, hv, hres⟩ := mm_b1_some hres
                    refine e_call0 (pc := 153) (L := [none, none, none]) (st := []) (m' := m) (v := some (.inl r10)) rfl (k_X3_truth d (by omega) 1 _ _ hv) ?_
                    show mm_E (d + 1) 82 (153, [none, none, none], [.inl r10], m) (.inl (some (.inl r)), m, 0, 0)
                    obtain rfl := Option.some.inj hres
                    exact e_ret rfl rfl
/-- GlassThreads$Law.worthOf(II)I -/
def f_X3_worthOf (i0 : Nat) (a1 : Int32) (a2 : Int32) (m : mm_M) : Option (Int32 × mm_M) :=
(mm_b1 (mm_loop (σ := Int32 × Int32 × mm_M) (ρ := (Int32 × mm_M)) (fun (s : Int32 × Int32 × mm_M) => match s with
| (v2, v3, m4) => (if a2 ≤ v3 then (some (.inr (v2, m4)))
else (if mm_in v3 400 then (
mm_let (m4 19 i0 v3.toNatClampNeg) fun v5 =>
mm_let ((if 40 ≤ v2 then (mm_let (v3 + 1) fun v7 =>
some (.inl (v2, v7, m4)))
else (if v5 ≠ 2 then (if mm_in (v5 - 264) 5 then (
if mm_in v2 40 then (
mm_let (mm_w m4 24 i0 v2.toNatClampNeg (m4 23 i0 (v5 - 264).toNatClampNeg)) fun m8 =>
mm_let (v2 + 1) fun v9 =>
mm_let (v3 + 1) fun v10 =>
some (.inl (v9, v10, m8))) else none) else none)
else (if mm_in v3 400 then (
if mm_in v2 40 then (
mm_let (mm_w m4 24 i0 v2.toNatClampNeg (m4 20 i0 v3.toNatClampNeg)) fun m11 =>
mm_let (v2 + 1) fun v12 =>
mm_let (v3 + 1) fun v13 =>
some (.inl (v12, v13, m11))) else none) else none)) : Option ((Int32 × Int32 × mm_M) ⊕ ((Int32 × mm_M))))) fun k6 =>
if v5 = 2 then (k6)
else (mm_b1 (f_X3_isValue v5 m4) fun r14 =>
if r14 = 0 then (if v5 ≠ 263 then (if v2 ≤ 1 then (mm_let (v3 + 1) fun v15 =>
some (.inl (v2, v15, m4)))
else (mm_let (v2 + (-1)) fun v16 =>
if mm_in (v16 - 1) 40 then (
if mm_in v16 40 then (
mm_b1 (f_X3_joined v5 (m4 24 i0 (v16 - 1).toNatClampNeg) (m4 24 i0 v16.toNatClampNeg) m4) fun r17 =>
if mm_in (v16 - 1) 40 then (
mm_let (mm_w m4 24 i0 ((v16 - 1).toNatClampNeg) r17) fun m18 =>
mm_let (v3 + 1) fun v19 =>
some (.inl (v16, v19, m18))) else none) else none) else none))
else (if v2 ≤ 0 then (mm_let (v3 + 1) fun v20 =>
some (.inl (v2, v20, m4)))
else (if mm_in (v2 - 1) 40 then (
mm_let (fun (w21 : Int32) => (mm_b1 (f_X3_truth w21 m4) fun r23 =>
if mm_in (v2 - 1) 40 then (
mm_let (mm_w m4 24 i0 ((v2 - 1).toNatClampNeg) r23) fun m24 =>
mm_let (v3 + 1) fun v25 =>
some (.inl (v2, v25, m24))) else none : Option ((Int32 × Int32 × mm_M) ⊕ ((Int32 × mm_M))))) fun k22 =>
if (m4 24 i0 (v2 - 1).toNatClampNeg) ≠ 0 then (k22 0)
else (k22 1)) else none)))
else (k6))) else none) : Option ((Int32 × Int32 × mm_M) ⊕ ((Int32 × mm_M))))) mm_fu (0, a1, m)) fun t => match t with
| (v26, m27) => if v26 ≤ 0 then (some (0, m27))
else (if mm_in (v26 - 1) 40 then (
some ((m27 24 i0 (v26 - 1).toNatClampNeg), m27)) else none))
set_option maxHeartbeats 4000000 in
set_option maxRecDepth 100000 in
theorem k_X3_worthOf (d : Nat) (hd : 2 ≤ d) (i0 : Nat) (a1 : Int32) (a2 : Int32) (m : mm_M) (r : Int32 × mm_M) (hres : f_X3_worthOf i0 a1 a2 m = some r) : mm_X d 81 [.inr (.inr (some (2, i0))), .inl a1, .inl a2] m (.inl (some (.inl r.1)), r.2, 0, 0) := by
  unfold f_X3_worthOf at hres
  obtain ⟨d, rfl⟩ : ∃ e, d = e + 1 := ⟨d - 1, by omega⟩
  show mm_E (d + 1) 81 (0, [some (.inr (.inr (some (2, i0)))), some (.inl a1), some (.inl a2), none, none, none], [], m) (.inl (some (.inl r.1)), r.2, 0, 0)
  refine e_steps 4 (s' := (5, [some (.inr (.inr (some (2, i0)))), some (.inl a1), some (.inl a2), some (.inl 0), some (.inl a1), none], [], m)) rfl ?_
  refine e_mask (L' := [some (.inr (.inr (some (2, i0)))), none, some (.inl a2), some (.inl 0), some (.inl a1), none]) rfl ?_
  refine e_loopb (φ := fun s => (5, [some (.inr (.inr (some (2, i0)))), none, some (.inl a2), some (.inl s.1), some (.inl s.2.1), none], [], s.2.2)) (K := fun t => mm_E (d + 1) 81 (165, [some (.inr (.inr (some (2, i0)))), none, none, some (.inl t.1), none, none], [], t.2) (.inl (some (.inl r.1)), r.2, 0, 0)) hres (fun t hres => ?_) (fun s ol1 hres hcl1 hxl1 => ?_)
  · obtain ⟨v26, m27⟩ := t
    show mm_E (d + 1) 81 (165, [some (.inr (.inr (some (2, i0)))), none, none, some (.inl v26), none, none], [], m27) (.inl (some (.inl r.1)), r.2, 0, 0)
    refine e_steps 1 (s' := (166, [some (.inr (.inr (some (2, i0)))), none, none, some (.inl v26), none, none], [.inl v26], m27)) rfl ?_
    refine e_if (s1 := (180, [some (.inr (.inr (some (2, i0)))), none, none, some (.inl v26), none, none], [], m27)) (s2 := (169, [some (.inr (.inr (some (2, i0)))), none, none, some (.inl v26), none, none], [], m27)) rfl hres (fun hc hres => ?_) (fun hc hres => ?_)
    · refine e_steps 1 (s' := (181, [some (.inr (.inr (some (2, i0)))), none, none, some (.inl v26), none, none], [.inl 0], m27)) rfl ?_
      refine e_mask (L' := [none, none, none, none, none, none]) rfl ?_
      obtain rfl := Option.some.inj hres
      exact e_ret rfl rfl
    · refine e_steps 5 (s' := (176, [some (.inr (.inr (some (2, i0)))), none, none, some (.inl v26), none, none], [.inl (v26 - 1), .inr (.inr (some (24, i0)))], m27)) rfl ?_
      refine e_gd (s1 := (177, [some (.inr (.inr (some (2, i0)))), none, none, some (.inl v26), none, none], [.inl (m27 24 i0 (v26 - 1).toNatClampNeg)], m27)) rfl hres (fun hc hres => ?_)
      refine e_steps 1 (s' := (181, [some (.inr (.inr (some (2, i0)))), none, none, some (.inl v26), none, none], [.inl (m27 24 i0 (v26 - 1).toNatClampNeg)], m27)) rfl ?_
      refine e_mask (L' := [none, none, none, none, none, none]) rfl ?_
      obtain rfl := Option.some.inj hres
      exact e_ret rfl rfl
  · obtain ⟨v2, v3, m4⟩ := s
    show mm_E (d + 1) 81 (5, [some (.inr (.inr (some (2, i0)))), none, some (.inl a2), some (.inl v2), some (.inl v3), none], [], m4) (.inl (some (.inl r.1)), r.2, 0, 0)
    refine e_steps 2 (s' := (8, [some (.inr (.inr (some (2, i0)))), none, some (.inl a2), some (.inl v2), some (.inl v3), none], [.inl a2, .inl v3], m4)) rfl ?_
    refine e_if (s1 := (165, [some (.inr (.inr (some (2, i0)))), none, some (.inl a2), some (.inl v2), some (.inl v3), none], [], m4)) (s2 := (11, [some (.inr (.inr (some (2, i0)))), none, some (.inl a2), some (.inl v2), some (.inl v3), none], [], m4)) rfl hres (fun hc hres => ?_) (fun hc hres => ?_)
    · obtain rfl := Option.some.inj hres
      exact e_mask (L' := [some (.inr (.inr (some (2, i0)))), none, none, some (.inl v2), none, none]) rfl (hxl1 _ rfl)
    · refine e_steps 3 (s' := (17, [some (.inr (.inr (some (2, i0)))), none, some (.inl a2), some (.inl v2), some (.inl v3), none], [.inl v3, .inr (.inr (some (19, i0)))], m4)) rfl ?_
      refine e_gd (s1 := (18, [some (.inr (.inr (some (2, i0)))), none, some (.inl a2), some (.inl v2), some (.inl v3), none], [.inl (m4 19 i0 v3.toNatClampNeg)], m4)) rfl hres (fun hc hres => ?_)
      refine e_steps 1 (s' := (20, [some (.inr (.inr (some (2, i0)))), none, some (.inl a2), some (.inl v2), some (.inl v3), some (.inl (m4 19 i0 v3.toNatClampNeg))], [], m4)) rfl ?_
      refine e_let (fun (v5 : Int32) => (20, [some (.inr (.inr (some (2, i0)))), none, some (.inl a2), some (.inl v2), some (.inl v3), some (.inl v5)], [], m4)) hres (fun v5 hres => ?_)
      refine e_steps 2 (s' := (23, [some (.inr (.inr (some (2, i0)))), none, some (.inl a2), some (.inl v2), some (.inl v3), some (.inl v5)], [.inl 2, .inl v5], m4)) rfl ?_
      refine e_join (fun k6 => k6 = some ol1 → mm_E (d + 1) 81 (34, [some (.inr (.inr (some (2, i0)))), none, some (.inl a2), some (.inl v2), some (.inl v3), some (.inl v5)], [], m4) (.inl (some (.inl r.1)), r.2, 0, 0)) hres (fun  hres => ?_) (fun k6 hk6 hres => ?_)
      · refine e_steps 4 (s' := (40, [some (.inr (.inr (some (2, i0)))), none, some (.inl a2), some (.inl v2), some (.inl v3), some (.inl v5)], [.inl 40, .inl v2], m4)) rfl ?_
        refine e_if (s1 := (159, [some (.inr (.inr (some (2, i0)))), none, some (.inl a2), some (.inl v2), some (.inl v3), some (.inl v5)], [], m4)) (s2 := (43, [some (.inr (.inr (some (2, i0)))), none, some (.inl a2), some (.inl v2), some (.inl v3), some (.inl v5)], [], m4)) rfl hres (fun hc hres => ?_) (fun hc hres => ?_)
        · refine e_mask (L' := [some (.inr (.inr (some (2, i0)))), none, some (.inl a2), some (.inl v2), some (.inl v3), none]) rfl ?_
          refine e_steps 1 (s' := (162, [some (.inr (.inr (some (2, i0)))), none, some (.inl a2), some (.inl v2), some (.inl (v3 + 1)), none], [], m4)) rfl ?_
          refine e_let (fun (v7 : Int32) => (162, [some (.inr (.inr (some (2, i0)))), none, some (.inl a2), some (.inl v2), some (.inl v7), none], [], m4)) hres (fun v7 hres => ?_)
          refine e_steps 1 (s' := (5, [some (.inr (.inr (some (2, i0)))), none, some (.inl a2), some (.inl v2), some (.inl v7), none], [], m4)) rfl ?_
          obtain rfl := Option.some.inj hres
          exact e_mask (L' := [some (.inr (.inr (some (2, i0)))), none, some (.inl a2), some (.inl v2), some (.inl v7), none]) rfl (hcl1 _ rfl)
        · refine e_steps 5 (s' := (51, [some (.inr (.inr (some (2, i0)))), none, some (.inl a2), some (.inl v2), some (.inl v3), some (.inl v5)], [.inl 2, .inl v5, .inl v2, .inr (.inr (some (24, i0)))], m4)) rfl ?_
          refine e_if (s1 := (64, [some (.inr (.inr (some (2, i0)))), none, some (.inl a2), some (.inl v2), some (.inl v3), some (.inl v5)], [.inl v2, .inr (.inr (some (24, i0)))], m4)) (s2 := (54, [some (.inr (.inr (some (2, i0)))), none, some (.inl a2), some (.inl v2), some (.inl v3), some (.inl v5)], [.inl v2, .inr (.inr (some (24, i0)))], m4)) rfl hres (fun hc hres => ?_) (fun hc hres => ?_)
          · refine e_steps 5 (s' := (74, [some (.inr (.inr (some (2, i0)))), none, some (.inl a2), some (.inl v2), some (.inl v3), some (.inl v5)], [.inl (v5 - 264), .inr (.inr (some (23, i0))), .inl v2, .inr (.inr (some (24, i0)))], m4)) rfl ?_
            refine e_gd (s1 := (75, [some (.inr (.inr (some (2, i0)))), none, some (.inl a2), some (.inl v2), some (.inl v3), some (.inl v5)], [.inl (m4 23 i0 (v5 - 264).toNatClampNeg), .inl v2, .inr (.inr (some (24, i0)))], m4)) rfl hres (fun hc hres => ?_)
            refine e_mask (L' := [some (.inr (.inr (some (2, i0)))), none, some (.inl a2), some (.inl v2), some (.inl v3), none]) rfl ?_
            refine e_gd (s1 := (76, [some (.inr (.inr (some (2, i0)))), none, some (.inl a2), some (.inl v2), some (.inl v3), none], [], (mm_w m4 24 i0 v2.toNatClampNeg (m4 23 i0 (v5 - 264).toNatClampNeg)))) rfl hres (fun hc hres => ?_)
            refine e_let (fun (m8 : mm_M) => (76, [some (.inr (.inr (some (2, i0)))), none, some (.inl a2), some (.inl v2), some (.inl v3), none], [], m8)) hres (fun m8 hres => ?_)
            refine e_steps 1 (s' := (79, [some (.inr (.inr (some (2, i0)))), none, some (.inl a2), some (.inl (v2 + 1)), some (.inl v3), none], [], m8)) rfl ?_
            refine e_let (fun (v9 : Int32) => (79, [some (.inr (.inr (some (2, i0)))), none, some (.inl a2), some (.inl v9), some (.inl v3), none], [], m8)) hres (fun v9 hres => ?_)
            refine e_steps 2 (s' := (162, [some (.inr (.inr (some (2, i0)))), none, some (.inl a2), some (.inl v9), some (.inl (v3 + 1)), none], [], m8)) rfl ?_
            refine e_let (fun (v10 : Int32) => (162, [some (.inr (.inr (some (2, i0)))), none, some (.inl a2), some (.inl v9), some (.inl v10), none], [], m8)) hres (fun v10 hres => ?_)
            refine e_steps 1 (s' := (5, [some (.inr (.inr (some (2, i0)))), none, some (.inl a2), some (.inl v9), some (.inl v10), none], [], m8)) rfl ?_
            obtain rfl := Option.some.inj hres
            exact e_mask (L' := [some (.inr (.inr (some (2, i0)))), none, some (.inl a2), some (.inl v9), some (.inl v10), none]) rfl (hcl1 _ rfl)
          · refine e_steps 3 (s' := (60, [some (.inr (.inr (some (2, i0)))), none, some (.inl a2), some (.inl v2), some (.inl v3), some (.inl v5)], [.inl v3, .inr (.inr (some (20, i0))), .inl v2, .inr (.inr (some (24, i0)))], m4)) rfl ?_
            refine e_gd (s1 := (61, [some (.inr (.inr (some (2, i0)))), none, some (.inl a2), some (.inl v2), some (.inl v3), some (.inl v5)], [.inl (m4 20 i0 v3.toNatClampNeg), .inl v2, .inr (.inr (some (24, i0)))], m4)) rfl hres (fun hc hres => ?_)
            refine e_steps 1 (s' := (75, [some (.inr (.inr (some (2, i0)))), none, some (.inl a2), some (.inl v2), some (.inl v3), some (.inl v5)], [.inl (m4 20 i0 v3.toNatClampNeg), .inl v2, .inr (.inr (some (24, i0)))], m4)) rfl ?_
            refine e_mask (L' := [some (.inr (.inr (some (2, i0)))), none, some (.inl a2), some (.inl v2), some (.inl v3), none]) rfl ?_
            refine e_gd (s1 := (76, [some (.inr (.inr (some (2, i0)))), none, some (.inl a2), some (.inl v2), some (.inl v3), none], [], (mm_w m4 24 i0 v2.toNatClampNeg (m4 20 i0 v3.toNatClampNeg)))) rfl hres (fun hc hres => ?_)
            refine e_let (fun (m11 : mm_M) => (76, [some (.inr (.inr (some (2, i0)))), none, some (.inl a2), some (.inl v2), some (.inl v3), none], [], m11)) hres (fun m11 hres => ?_)
            refine e_steps 1 (s' := (79, [some (.inr (.inr (some (2, i0)))), none, some (.inl a2), some (.inl (v2 + 1)), some (.inl v3), none], [], m11)) rfl ?_
            refine e_let (fun (v12 : Int32) => (79, [some (.inr (.inr (some (2, i0)))), none, some (.inl a2), some (.inl v12), some (.inl v3), none], [], m11)) hres (fun v12 hres => ?_)
            refine e_steps 2 (s' := (162, [some (.inr (.inr (some (2, i0)))), none, some (.inl a2), some (.inl v12), some (.inl (v3 + 1)), none], [], m11)) rfl ?_
            refine e_let (fun (v13 : Int32) => (162, [some (.inr (.inr (some (2, i0)))), none, some (.inl a2), some (.inl v12), some (.inl v13), none], [], m11)) hres (fun v13 hres => ?_)
            refine e_steps 1 (s' := (5, [some (.inr (.inr (some (2, i0)))), none, some (.inl a2), some (.inl v12), some (.inl v13), none], [], m11)) rfl ?_
            obtain rfl := Option.some.inj hres
            exact e_mask (L' := [some (.inr (.inr (some (2, i0)))), none, some (.inl a2), some (.inl v12), some (.inl v13), none]) rfl (hcl1 _ rfl)
      · refine e_if (s1 := (34, [some (.inr (.inr (some (2, i0)))), none, some (.inl a2), some (.inl v2), some (.inl v3), some (.inl v5)], [], m4)) (s2 := (26, [some (.inr (.inr (some (2, i0)))), none, some (.inl a2), some (.inl v2), some (.inl v3), some (.inl v5)], [], m4)) rfl hres (fun hc hres => ?_) (fun hc hres => ?_)
        · exact e_mask (L' := [some (.inr (.inr (some (2, i0)))), none, some (.inl a2), some (.inl v2), some (.inl v3), some (.inl v5)]) rfl (hk6  hres)
        · refine e_steps 1 (s' := (28, [some (.inr (.inr (some (2, i0)))), none, some (.inl a2), some (.inl v2), some (.inl v3), some (.inl v5)], [.inl v5], m4)) rfl ?_
          obtain ⟨r14, hv, hres⟩ := mm_b1_some hres
          refine e_call0 (pc := 31) (L := [some (.inr (.inr (some (2, i0)))), none, some (.inl a2), some (.inl v2), some (.inl v3), some (.inl v5)]) (st := []) (m' := m4) (v := some (.inl r14)) rfl (k_X3_isValue d (by omega) v5 _ _ hv) ?_
          show mm_E (d + 1) 81 (31, [some (.inr (.inr (some (2, i0)))), none, some (.inl a2), some (.inl v2), some (.inl v3), some (.inl v5)], [.inl r14], m4) (.inl (some (.inl r.1)), r.2, 0, 0)
          refine e_if (s1 := (82, [some (.inr (.inr (some (2, i0)))), none, some (.inl a2), some (.inl v2), some (.inl v3), some (.inl v5)], [], m4)) (s2 := (34, [some (.inr (.inr (some (2, i0)))), none, some (.inl a2), some (.inl v2), some (.inl v3), some (.inl v5)], [], m4)) rfl hres (fun hc hres => ?_) (fun hc hres => ?_)
          · refine e_steps 2 (s' := (87, [some (.inr (.inr (some (2, i0)))), none, some (.inl a2), some (.inl v2), some (.inl v3), some (.inl v5)], [.inl 263, .inl v5], m4)) rfl ?_
            refine e_if (s1 := (124, [some (.inr (.inr (some (2, i0)))), none, some (.inl a2), some (.inl v2), some (.inl v3), some (.inl v5)], [], m4)) (s2 := (90, [some (.inr (.inr (some (2, i0)))), none, some (.inl a2), some (.inl v2), some (.inl v3), some (.inl v5)], [], m4)) rfl hres (fun hc hres => ?_) (fun hc hres => ?_)
            · refine e_steps 2 (s' := (126, [some (.inr (.inr (some (2, i0)))), none, some (.inl a2), some (.inl v2), some (.inl v3), some (.inl v5)], [.inl 1, .inl v2], m4)) rfl ?_
              refine e_if (s1 := (159, [some (.inr (.inr (some (2, i0)))), none, some (.inl a2), some (.inl v2), some (.inl v3), some (.inl v5)], [], m4)) (s2 := (129, [some (.inr (.inr (some (2, i0)))), none, some (.inl a2), some (.inl v2), some (.inl v3), some (.inl v5)], [], m4)) rfl hres (fun hc hres => ?_) (fun hc hres => ?_)
              · refine e_mask (L' := [some (.inr (.inr (some (2, i0)))), none, some (.inl a2), some (.inl v2), some (.inl v3), none]) rfl ?_
                refine e_steps 1 (s' := (162, [some (.inr (.inr (some (2, i0)))), none, some (.inl a2), some (.inl v2), some (.inl (v3 + 1)), none], [], m4)) rfl ?_
                refine e_let (fun (v15 : Int32) => (162, [some (.inr (.inr (some (2, i0)))), none, some (.inl a2), some (.inl v2), some (.inl v15), none], [], m4)) hres (fun v15 hres => ?_)
                refine e_steps 1 (s' := (5, [some (.inr (.inr (some (2, i0)))), none, some (.inl a2), some (.inl v2), some (.inl v15), none], [], m4)) rfl ?_
                obtain rfl := Option.some.inj hres
                exact e_mask (L' := [some (.inr (.inr (some (2, i0)))), none, some (.inl a2), some (.inl v2), some (.inl v15), none]) rfl (hcl1 _ rfl)
              · refine e_steps 1 (s' := (132, [some (.inr (.inr (some (2, i0)))), none, some (.inl a2), some (.inl (v2 + (-1))), some (.inl v3), some (.inl v5)], [], m4)) rfl ?_
                refine e_let (fun (v16 : Int32) => (132, [some (.inr (.inr (some (2, i0)))), none, some (.inl a2), some (.inl v16), some (.inl v3), some (.inl v5)], [], m4)) hres (fun v16 hres => ?_)
                refine e_steps 11 (s' := (148, [some (.inr (.inr (some (2, i0)))), none, some (.inl a2), some (.inl v16), some (.inl v3), some (.inl v5)], [.inl (v16 - 1), .inr (.inr (some (24, i0))), .inl v5, .inl (v16 - 1), .inr (.inr (some (24, i0)))], m4)) rfl ?_
                refine e_gd (s1 := (149, [some (.inr (.inr (some (2, i0)))), none, some (.inl a2), some (.inl v16), some (.inl v3), some (.inl v5)], [.inl (m4 24 i0 (v16 - 1).toNatClampNeg), .inl v5, .inl (v16 - 1), .inr (.inr (some (24, i0)))], m4)) rfl hres (fun hc hres => ?_)
                refine e_steps 3 (s' := (154, [some (.inr (.inr (some (2, i0)))), none, some (.inl a2), some (.inl v16), some (.inl v3), some (.inl v5)], [.inl v16, .inr (.inr (some (24, i0))), .inl (m4 24 i0 (v16 - 1).toNatClampNeg), .inl v5, .inl (v16 - 1), .inr (.inr (some (24, i0)))], m4)) rfl ?_
                refine e_gd (s1 := (155, [some (.inr (.inr (some (2, i0)))), none, some (.inl a2), some (.inl v16), some (.inl v3), some (.inl v5)], [.inl (m4 24 i0 v16.toNatClampNeg), .inl (m4 24 i0 (v16 - 1).toNatClampNeg), .inl v5, .inl (v16 - 1), .inr (.inr (some (24, i0)))], m4)) rfl hres (fun hc hres => ?_)
                obtain ⟨r17, hv, hres⟩ := mm_b1_some hres
                refine e_call0 (pc := 158) (L := [some (.inr (.inr (some (2, i0)))), none, some (.inl a2), some (.inl v16), some (.inl v3), some (.inl v5)]) (st := [.inl (v16 - 1), .inr (.inr (some (24, i0)))]) (m' := m4) (v := some (.inl r17)) rfl (k_X3_joined d (by omega) v5 (m4 24 i0 (v16 - 1).toNatClampNeg) (m4 24 i0 v16.toNatClampNeg) _ _ hv) ?_
                show mm_E (d + 1) 81 (158, [some (.inr (.inr (some (2, i0)))), none, some (.inl a2), some (.inl v16), some (.inl v3), some (.inl v5)], [.inl r17, .inl (v16 - 1), .inr (.inr (some (24, i0)))], m4) (.inl (some (.inl r.1)), r.2, 0, 0)
                refine e_gd (s1 := (159, [some (.inr (.inr (some (2, i0)))), none, some (.inl a2), some (.inl v16), some (.inl v3), some (.inl v5)], [], (mm_w m4 24 i0 ((v16 - 1).toNatClampNeg) r17))) rfl hres (fun hc hres => ?_)
                refine e_let (fun (m18 : mm_M) => (159, [some (.inr (.inr (some (2, i0)))), none, some (.inl a2), some (.inl v16), some (.inl v3), some (.inl v5)], [], m18)) hres (fun m18 hres => ?_)
                refine e_mask (L' := [some (.inr (.inr (some (2, i0)))), none, some (.inl a2), some (.inl v16), some (.inl v3), none]) rfl ?_
                refine e_steps 1 (s' := (162, [some (.inr (.inr (some (2, i0)))), none, some (.inl a2), some (.inl v16), some (.inl (v3 + 1)), none], [], m18)) rfl ?_
                refine e_let (fun (v19 : Int32) => (162, [some (.inr (.inr (some (2, i0)))), none, some (.inl a2), some (.inl v16), some (.inl v19), none], [], m18)) hres (fun v19 hres => ?_)
                refine e_steps 1 (s' := (5, [some (.inr (.inr (some (2, i0)))), none, some (.inl a2), some (.inl v16), some (.inl v19), none], [], m18)) rfl ?_
                obtain rfl := Option.some.inj hres
                exact e_mask (L' := [some (.inr (.inr (some (2, i0)))), none, some (.inl a2), some (.inl v16), some (.inl v19), none]) rfl (hcl1 _ rfl)
            · refine e_steps 1 (s' := (91, [some (.inr (.inr (some (2, i0)))), none, some (.inl a2), some (.inl v2), some (.inl v3), some (.inl v5)], [.inl v2], m4)) rfl ?_
              refine e_if (s1 := (159, [some (.inr (.inr (some (2, i0)))), none, some (.inl a2), some (.inl v2), some (.inl v3), some (.inl v5)], [], m4)) (s2 := (94, [some (.inr (.inr (some (2, i0)))), none, some (.inl a2), some (.inl v2), some (.inl v3), some (.inl v5)], [], m4)) rfl hres (fun hc hres => ?_) (fun hc hres => ?_)
              · refine e_mask (L' := [some (.inr (.inr (some (2, i0)))), none, some (.inl a2), some (.inl v2), some (.inl v3), none]) rfl ?_
                refine e_steps 1 (s' := (162, [some (.inr (.inr (some (2, i0)))), none, some (.inl a2), some (.inl v2), some (.inl (v3 + 1)), none], [], m4)) rfl ?_
                refine e_let (fun (v20 : Int32) => (162, [some (.inr (.inr (some (2, i0)))), none, some (.inl a2), some (.inl v2), some (.inl v20), none], [], m4)) hres (fun v20 hres => ?_)
                refine e_steps 1 (s' := (5, [some (.inr (.inr (some (2, i0)))), none, some (.inl a2), some (.inl v2), some (.inl v20), none], [], m4)) rfl ?_
                obtain rfl := Option.some.inj hres
                exact e_mask (L' := [some (.inr (.inr (some (2, i0)))), none, some (.inl a2), some (.inl v2), some (.inl v20), none]) rfl (hcl1 _ rfl)
              · refine e_steps 10 (s' := (108, [some (.inr (.inr (some (2, i0)))), none, some (.inl a2), some (.inl v2), some (.inl v3), some (.inl v5)], [.inl (v2 - 1), .inr (.inr (some (24, i0))), .inl (v2 - 1), .inr (.inr (some (24, i0)))], m4)) rfl ?_
                refine e_gd (s1 := (109, [some (.inr (.inr (some (2, i0)))), none, some (.inl a2), some (.inl v2), some (.inl v3), some (.inl v5)], [.inl (m4 24 i0 (v2 - 1).toNatClampNeg), .inl (v2 - 1), .inr (.inr (some (24, i0)))], m4)) rfl hres (fun hc hres => ?_)
                refine e_join (fun k22 => ∀ (w21 : Int32), k22 w21 = some ol1 → mm_E (d + 1) 81 (117, [some (.inr (.inr (some (2, i0)))), none, some (.inl a2), some (.inl v2), some (.inl v3), none], [.inl w21, .inl (v2 - 1), .inr (.inr (some (24, i0)))], m4) (.inl (some (.inl r.1)), r.2, 0, 0)) hres (fun w21 hres => ?_) (fun k22 hk22 hres => ?_)
                · obtain ⟨r23, hv, hres⟩ := mm_b1_some hres
                  refine e_call0 (pc := 120) (L := [some (.inr (.inr (some (2, i0)))), none, some (.inl a2), some (.inl v2), some (.inl v3), none]) (st := [.inl (v2 - 1), .inr (.inr (some (24, i0)))]) (m' := m4) (v := some (.inl r23)) rfl (k_X3_truth d (by omega) w21 _ _ hv) ?_
                  show mm_E (d + 1) 81 (120, [some (.inr (.inr (some (2, i0)))), none, some (.inl a2), some (.inl v2), some (.inl v3), none], [.inl r23, .inl (v2 - 1), .inr (.inr (some (24, i0)))], m4) (.inl (some (.inl r.1)), r.2, 0, 0)
                  refine e_gd (s1 := (121, [some (.inr (.inr (some (2, i0)))), none, some (.inl a2), some (.inl v2), some (.inl v3), none], [], (mm_w m4 24 i0 ((v2 - 1).toNatClampNeg) r23))) rfl hres (fun hc hres => ?_)
                  refine e_let (fun (m24 : mm_M) => (121, [some (.inr (.inr (some (2, i0)))), none, some (.inl a2), some (.inl v2), some (.inl v3), none], [], m24)) hres (fun m24 hres => ?_)
                  refine e_steps 2 (s' := (162, [some (.inr (.inr (some (2, i0)))), none, some (.inl a2), some (.inl v2), some (.inl (v3 + 1)), none], [], m24)) rfl ?_
                  refine e_let (fun (v25 : Int32) => (162, [some (.inr (.inr (some (2, i0)))), none, some (.inl a2), some (.inl v2), some (.inl v25), none], [], m24)) hres (fun v25 hres => ?_)
                  refine e_steps 1 (s' := (5, [some (.inr (.inr (some (2, i0)))), none, some (.inl a2), some (.inl v2), some (.inl v25), none], [], m24)) rfl ?_
                  obtain rfl := Option.some.inj hres
                  exact e_mask (L' := [some (.inr (.inr (some (2, i0)))), none, some (.inl a2), some (.inl v2), some (.inl v25), none]) rfl (hcl1 _ rfl)
                · refine e_if (s1 := (116, [some (.inr (.inr (some (2, i0)))), none, some (.inl a2), some (.inl v2), some (.inl v3), some (.inl v5)], [.inl (v2 - 1), .inr (.inr (some (24, i0)))], m4)) (s2 := (112, [some (.inr (.inr (some (2, i0)))), none, some (.inl a2), some (.inl v2), some (.inl v3), some (.inl v5)], [.inl (v2 - 1), .inr (.inr (some (24, i0)))], m4)) rfl hres (fun hc hres => ?_) (fun hc hres => ?_)
                  · refine e_steps 1 (s' := (117, [some (.inr (.inr (some (2, i0)))), none, some (.inl a2), some (.inl v2), some (.inl v3), some (.inl v5)], [.inl 0, .inl (v2 - 1), .inr (.inr (some (24, i0)))], m4)) rfl ?_
                    exact e_mask (L' := [some (.inr (.inr (some (2, i0)))), none, some (.inl a2), some (.inl v2), some (.inl v3), none]) rfl (hk22 _ hres)
                  · refine e_steps 2 (s' := (117, [some (.inr (.inr (some (2, i0)))), none, some (.inl a2), some (.inl v2), some (.inl v3), some (.inl v5)], [.inl 1, .inl (v2 - 1), .inr (.inr (some (24, i0)))], m4)) rfl ?_
                    exact e_mask (L' := [some (.inr (.inr (some (2, i0)))), none, some (.inl a2), some (.inl v2), some (.inl v3), none]) rfl (hk22 _ hres)
          · exact e_mask (L' := [some (.inr (.inr (some (2, i0)))), none, some (.inl a2), some (.inl v2), some (.inl v3), some (.inl v5)]) rfl (hk6  hres)
/-- GlassThreads$Law.usualLoss(II)I -/
def f_X3_usualLoss (a0 : Int32) (a1 : Int32) (m : mm_M) : Option (Int32) :=
if a0 = 0 then (some (2 * a1))
else if a0 = 1 then (some 50)
else if a0 = 2 then (some 300)
else (some 200)
set_option maxHeartbeats 4000000 in
set_option maxRecDepth 100000 in
theorem k_X3_usualLoss (d : Nat) (hd : 0 ≤ d) (a0 : Int32) (a1 : Int32) (m : mm_M) (r : Int32) (hres : f_X3_usualLoss a0 a1 m = some r) : mm_X d 85 [.inl a0, .inl a1] m (.inl (some (.inl r)), m, 0, 0) := by
  unfold f_X3_usualLoss at hres
  show mm_E d 85 (0, [some (.inl a0), some (.inl a1)], [], m) (.inl (some (.inl r)), m, 0, 0)
  refine e_steps 1 (s' := (1, [some (.inl a0), some (.inl a1)], [.inl a0], m)) rfl ?_
  refine e_sw (c := a0 = 0) (s1 := (28, [some (.inl a0), some (.inl a1)], [], m)) rfl hres (fun hc hres => ?_) (fun hc hres hst => ?_)
  · refine e_steps 3 (s' := (31, [some (.inl a0), some (.inl a1)], [.inl (2 * a1)], m)) rfl ?_
    obtain rfl := Option.some.inj hres
    exact e_ret rfl rfl
  · refine e_sw (c := a0 = 1) (s1 := (32, [some (.inl a0), some (.inl a1)], [], m)) hst hres (fun hc hres => ?_) (fun hc hres hst => ?_)
    · refine e_steps 1 (s' := (34, [some (.inl a0), some (.inl a1)], [.inl 50], m)) rfl ?_
      obtain rfl := Option.some.inj hres
      exact e_ret rfl rfl
    · refine e_sw (c := a0 = 2) (s1 := (35, [some (.inl a0), some (.inl a1)], [], m)) hst hres (fun hc hres => ?_) (fun hc hres hst => ?_)
      · refine e_steps 1 (s' := (38, [some (.inl a0), some (.inl a1)], [.inl 300], m)) rfl ?_
        obtain rfl := Option.some.inj hres
        exact e_ret rfl rfl
      · refine e_step (s' := (39, [some (.inl a0), some (.inl a1)], [], m)) hst ?_
        refine e_steps 1 (s' := (42, [some (.inl a0), some (.inl a1)], [.inl 200], m)) rfl ?_
        obtain rfl := Option.some.inj hres
        exact e_ret rfl rfl
/-- GlassThreads$Law.lossOf(LGlassThreads$Strand;III)I -/
def f_X3_lossOf (i0 : Nat) (i1 : Nat) (a2 : Int32) (a3 : Int32) (a4 : Int32) (m : mm_M) : Option (Int32 × mm_M) :=
if mm_in a2 24 then (
mm_let (m 37 i1 a2.toNatClampNeg) fun v1 =>
if mm_in a2 24 then (
mm_let (m 38 i1 a2.toNatClampNeg) fun v2 =>
if mm_in v1 4 then (
if (m 21 i0 v1.toNatClampNeg) ≠ (-1) then (mm_let (mm_w m 23 i0 0 a3) fun m3 =>
mm_let (mm_w m3 23 i0 1 a4) fun m4 =>
mm_let (fun (w5 : Int32) => (mm_let (mm_w m4 23 i0 2 w5) fun m7 =>
mm_let (fun (w8 : Int32) => (mm_let (mm_w m7 23 i0 3 w8) fun m10 =>
if mm_in a2 24 then (
mm_let (mm_w m10 23 i0 4 (m10 40 i1 a2.toNatClampNeg)) fun m11 =>
if mm_in v1 4 then (
if mm_in v1 4 then (
mm_b2 (f_X3_worthOf i0 (m11 21 i0 v1.toNatClampNeg) (m11 22 i0 v1.toNatClampNeg) m11) fun r12 m13 =>
some ((mm_max 0 (mm_min 99999 r12)), m13)) else none) else none) else none : Option (Int32 × mm_M))) fun k9 =>
if v1 ≠ 0 then (k9 v2)
else (k9 0) : Option (Int32 × mm_M))) fun k6 =>
if v1 ≠ 0 then (k6 0)
else (k6 v2))
else (mm_b1 (f_X3_usualLoss v1 v2 m) fun r14 =>
some (r14, m))) else none) else none) else none
set_option maxHeartbeats 4000000 in
set_option maxRecDepth 100000 in
theorem k_X3_lossOf (d : Nat) (hd : 3 ≤ d) (i0 : Nat) (i1 : Nat) (a2 : Int32) (a3 : Int32) (a4 : Int32) (m : mm_M) (r : Int32 × mm_M) (hres : f_X3_lossOf i0 i1 a2 a3 a4 m = some r) : mm_X d 80 [.inr (.inr (some (2, i0))), .inr (.inr (some (5, i1))), .inl a2, .inl a3, .inl a4] m (.inl (some (.inl r.1)), r.2, 0, 0) := by
  unfold f_X3_lossOf at hres
  obtain ⟨d, rfl⟩ : ∃ e, d = e + 1 := ⟨d - 1, by omega⟩
  show mm_E (d + 1) 80 (0, [some (.inr (.inr (some (2, i0)))), some (.inr (.inr (some (5, i1)))), some (.inl a2), some (.inl a3), some (.inl a4), none, none, none], [], m) (.inl (some (.inl r.1)), r.2, 0, 0)
  refine e_steps 3 (s' := (5, [some (.inr (.inr (some (2, i0)))), some (.inr (.inr (some (5, i1)))), some (.inl a2), some (.inl a3), some (.inl a4), none, none, none], [.inl a2, .inr (.inr (some (37, i1)))], m)) rfl ?_
  refine e_gd (s1 := (6, [some (.inr (.inr (some (2, i0)))), some (.inr (.inr (some (5, i1)))), some (.inl a2), some (.inl a3), some (.inl a4), none, none, none], [.inl (m 37 i1 a2.toNatClampNeg)], m)) rfl hres (fun hc hres => ?_)
  refine e_steps 1 (s' := (8, [some (.inr (.inr (some (2, i0)))), some (.inr (.inr (some (5, i1)))), some (.inl a2), some (.inl a3), some (.inl a4), some (.inl (m 37 i1 a2.toNatClampNeg)), none, none], [], m)) rfl ?_
  refine e_let (fun (v1 : Int32) => (8, [some (.inr (.inr (some (2, i0)))), some (.inr (.inr (some (5, i1)))), some (.inl a2), some (.inl a3), some (.inl a4), some (.inl v1), none, none], [], m)) hres (fun v1 hres => ?_)
  refine e_steps 3 (s' := (13, [some (.inr (.inr (some (2, i0)))), some (.inr (.inr (some (5, i1)))), some (.inl a2), some (.inl a3), some (.inl a4), some (.inl v1), none, none], [.inl a2, .inr (.inr (some (38, i1)))], m)) rfl ?_
  refine e_gd (s1 := (14, [some (.inr (.inr (some (2, i0)))), some (.inr (.inr (some (5, i1)))), some (.inl a2), some (.inl a3), some (.inl a4), some (.inl v1), none, none], [.inl (m 38 i1 a2.toNatClampNeg)], m)) rfl hres (fun hc hres => ?_)
  refine e_steps 1 (s' := (16, [some (.inr (.inr (some (2, i0)))), some (.inr (.inr (some (5, i1)))), some (.inl a2), some (.inl a3), some (.inl a4), some (.inl v1), some (.inl (m 38 i1 a2.toNatClampNeg)), none], [], m)) rfl ?_
  refine e_let (fun (v2 : Int32) => (16, [some (.inr (.inr (some (2, i0)))), some (.inr (.inr (some (5, i1)))), some (.inl a2), some (.inl a3), some (.inl a4), some (.inl v1), some (.inl v2), none], [], m)) hres (fun v2 hres => ?_)
  refine e_steps 3 (s' := (22, [some (.inr (.inr (some (2, i0)))), some (.inr (.inr (some (5, i1)))), some (.inl a2), some (.inl a3), some (.inl a4), some (.inl v1), some (.inl v2), none], [.inl v1, .inr (.inr (some (21, i0)))], m)) rfl ?_
  refine e_gd (s1 := (23, [some (.inr (.inr (some (2, i0)))), some (.inr (.inr (some (5, i1)))), some (.inl a2), some (.inl a3), some (.inl a4), some (.inl v1), some (.inl v2), none], [.inl (m 21 i0 v1.toNatClampNeg)], m)) rfl hres (fun hc hres => ?_)
  refine e_steps 1 (s' := (24, [some (.inr (.inr (some (2, i0)))), some (.inr (.inr (some (5, i1)))), some (.inl a2), some (.inl a3), some (.inl a4), some (.inl v1), some (.inl v2), none], [.inl (-1), .inl (m 21 i0 v1.toNatClampNeg)], m)) rfl ?_
  refine e_if (s1 := (35, [some (.inr (.inr (some (2, i0)))), some (.inr (.inr (some (5, i1)))), some (.inl a2), some (.inl a3), some (.inl a4), some (.inl v1), some (.inl v2), none], [], m)) (s2 := (27, [some (.inr (.inr (some (2, i0)))), some (.inr (.inr (some (5, i1)))), some (.inl a2), some (.inl a3), some (.inl a4), some (.inl v1), some (.inl v2), none], [], m)) rfl hres (fun hc hres => ?_) (fun hc hres => ?_)
  · refine e_steps 5 (s' := (42, [some (.inr (.inr (some (2, i0)))), some (.inr (.inr (some (5, i1)))), some (.inl a2), some (.inl a3), some (.inl a4), some (.inl v1), some (.inl v2), none], [], (mm_w m 23 i0 0 a3))) rfl ?_
    refine e_let (fun (m3 : mm_M) => (42, [some (.inr (.inr (some (2, i0)))), some (.inr (.inr (some (5, i1)))), some (.inl a2), some (.inl a3), some (.inl a4), some (.inl v1), some (.inl v2), none], [], m3)) hres (fun m3 hres => ?_)
    refine e_steps 5 (s' := (50, [some (.inr (.inr (some (2, i0)))), some (.inr (.inr (some (5, i1)))), some (.inl a2), some (.inl a3), some (.inl a4), some (.inl v1), some (.inl v2), none], [], (mm_w m3 23 i0 1 a4))) rfl ?_
    refine e_let (fun (m4 : mm_M) => (50, [some (.inr (.inr (some (2, i0)))), some (.inr (.inr (some (5, i1)))), some (.inl a2), some (.inl a3), some (.inl a4), some (.inl v1), some (.inl v2), none], [], m4)) hres (fun m4 hres => ?_)
    refine e_steps 4 (s' := (57, [some (.inr (.inr (some (2, i0)))), some (.inr (.inr (some (5, i1)))), some (.inl a2), some (.inl a3), some (.inl a4), some (.inl v1), some (.inl v2), none], [.inl v1, .inl 2, .inr (.inr (some (23, i0)))], m4)) rfl ?_
    refine e_join (fun k6 => ∀ (w5 : Int32), k6 w5 = some r → mm_E (d + 1) 80 (66, [some (.inr (.inr (some (2, i0)))), some (.inr (.inr (some (5, i1)))), some (.inl a2), none, none, some (.inl v1), some (.inl v2), none], [.inl w5, .inl 2, .inr (.inr (some (23, i0)))], m4) (.inl (some (.inl r.1)), r.2, 0, 0)) hres (fun w5 hres => ?_) (fun k6 hk6 hres => ?_)
    · refine e_steps 1 (s' := (67, [some (.inr (.inr (some (2, i0)))), some (.inr (.inr (some (5, i1)))), some (.inl a2), none, none, some (.inl v1), some (.inl v2), none], [], (mm_w m4 23 i0 2 w5))) rfl ?_
      refine e_let (fun (m7 : mm_M) => (67, [some (.inr (.inr (some (2, i0)))), some (.inr (.inr (some (5, i1)))), some (.inl a2), none, none, some (.inl v1), some (.inl v2), none], [], m7)) hres (fun m7 hres => ?_)
      refine e_steps 4 (s' := (74, [some (.inr (.inr (some (2, i0)))), some (.inr (.inr (some (5, i1)))), some (.inl a2), none, none, some (.inl v1), some (.inl v2), none], [.inl v1, .inl 3, .inr (.inr (some (23, i0)))], m7)) rfl ?_
      refine e_join (fun k9 => ∀ (w8 : Int32), k9 w8 = some r → mm_E (d + 1) 80 (83, [some (.inr (.inr (some (2, i0)))), some (.inr (.inr (some (5, i1)))), some (.inl a2), none, none, some (.inl v1), none, none], [.inl w8, .inl 3, .inr (.inr (some (23, i0)))], m7) (.inl (some (.inl r.1)), r.2, 0, 0)) hres (fun w8 hres => ?_) (fun k9 hk9 hres => ?_)
      · refine e_steps 1 (s' := (84, [some (.inr (.inr (some (2, i0)))), some (.inr (.inr (some (5, i1)))), some (.inl a2), none, none, some (.inl v1), none, none], [], (mm_w m7 23 i0 3 w8))) rfl ?_
        refine e_let (fun (m10 : mm_M) => (84, [some (.inr (.inr (some (2, i0)))), some (.inr (.inr (some (5, i1)))), some (.inl a2), none, none, some (.inl v1), none, none], [], m10)) hres (fun m10 hres => ?_)
        refine e_steps 6 (s' := (94, [some (.inr (.inr (some (2, i0)))), some (.inr (.inr (some (5, i1)))), some (.inl a2), none, none, some (.inl v1), none, none], [.inl a2, .inr (.inr (some (40, i1))), .inl 4, .inr (.inr (some (23, i0)))], m10)) rfl ?_
        refine e_gd (s1 := (95, [some (.inr (.inr (some (2, i0)))), some (.inr (.inr (some (5, i1)))), some (.inl a2), none, none, some (.inl v1), none, none], [.inl (m10 40 i1 a2.toNatClampNeg), .inl 4, .inr (.inr (some (23, i0)))], m10)) rfl hres (fun hc hres => ?_)
        refine e_steps 1 (s' := (96, [some (.inr (.inr (some (2, i0)))), some (.inr (.inr (some (5, i1)))), some (.inl a2), none, none, some (.inl v1), none, none], [], (mm_w m10 23 i0 4 (m10 40 i1 a2.toNatClampNeg)))) rfl ?_
        refine e_let (fun (m11 : mm_M) => (96, [some (.inr (.inr (some (2, i0)))), some (.inr (.inr (some (5, i1)))), some (.inl a2), none, none, some (.inl v1), none, none], [], m11)) hres (fun m11 hres => ?_)
        refine e_steps 4 (s' := (103, [some (.inr (.inr (some (2, i0)))), some (.inr (.inr (some (5, i1)))), some (.inl a2), none, none, some (.inl v1), none, none], [.inl v1, .inr (.inr (some (21, i0))), .inr (.inr (some (2, i0)))], m11)) rfl ?_
        refine e_gd (s1 := (104, [some (.inr (.inr (some (2, i0)))), some (.inr (.inr (some (5, i1)))), some (.inl a2), none, none, some (.inl v1), none, none], [.inl (m11 21 i0 v1.toNatClampNeg), .inr (.inr (some (2, i0)))], m11)) rfl hres (fun hc hres => ?_)
        refine e_steps 3 (s' := (110, [some (.inr (.inr (some (2, i0)))), some (.inr (.inr (some (5, i1)))), some (.inl a2), none, none, some (.inl v1), none, none], [.inl v1, .inr (.inr (some (22, i0))), .inl (m11 21 i0 v1.toNatClampNeg), .inr (.inr (some (2, i0)))], m11)) rfl ?_
        refine e_gd (s1 := (111, [some (.inr (.inr (some (2, i0)))), some (.inr (.inr (some (5, i1)))), some (.inl a2), none, none, some (.inl v1), none, none], [.inl (m11 22 i0 v1.toNatClampNeg), .inl (m11 21 i0 v1.toNatClampNeg), .inr (.inr (some (2, i0)))], m11)) rfl hres (fun hc hres => ?_)
        obtain ⟨r12, m13, hv, hres⟩ := mm_b2_some hres
        refine e_call0 (pc := 114) (L := [some (.inr (.inr (some (2, i0)))), some (.inr (.inr (some (5, i1)))), some (.inl a2), none, none, some (.inl v1), none, none]) (st := []) (m' := m13) (v := some (.inl r12)) rfl (k_X3_worthOf d (by omega) i0 (m11 21 i0 v1.toNatClampNeg) (m11 22 i0 v1.toNatClampNeg) _ _ hv) ?_
        show mm_E (d + 1) 80 (114, [some (.inr (.inr (some (2, i0)))), some (.inr (.inr (some (5, i1)))), some (.inl a2), none, none, some (.inl v1), none, none], [.inl r12], m13) (.inl (some (.inl r.1)), r.2, 0, 0)
        refine e_steps 6 (s' := (127, [some (.inr (.inr (some (2, i0)))), some (.inr (.inr (some (5, i1)))), some (.inl a2), none, none, some (.inl v1), none, some (.inl r12)], [.inl (mm_max 0 (mm_min 99999 r12))], m13)) rfl ?_
        obtain rfl := Option.some.inj hres
        exact e_ret rfl rfl
      · refine e_if (s1 := (81, [some (.inr (.inr (some (2, i0)))), some (.inr (.inr (some (5, i1)))), some (.inl a2), none, none, some (.inl v1), some (.inl v2), none], [.inl 3, .inr (.inr (some (23, i0)))], m7)) (s2 := (77, [some (.inr (.inr (some (2, i0)))), some (.inr (.inr (some (5, i1)))), some (.inl a2), none, none, some (.inl v1), some (.inl v2), none], [.inl 3, .inr (.inr (some (23, i0)))], m7)) rfl hres (fun hc hres => ?_) (fun hc hres => ?_)
        · refine e_steps 1 (s' := (83, [some (.inr (.inr (some (2, i0)))), some (.inr (.inr (some (5, i1)))), some (.inl a2), none, none, some (.inl v1), some (.inl v2), none], [.inl v2, .inl 3, .inr (.inr (some (23, i0)))], m7)) rfl ?_
          exact e_mask (L' := [some (.inr (.inr (some (2, i0)))), some (.inr (.inr (some (5, i1)))), some (.inl a2), none, none, some (.inl v1), none, none]) rfl (hk9 _ hres)
        · refine e_steps 2 (s' := (83, [some (.inr (.inr (some (2, i0)))), some (.inr (.inr (some (5, i1)))), some (.inl a2), none, none, some (.inl v1), some (.inl v2), none], [.inl 0, .inl 3, .inr (.inr (some (23, i0)))], m7)) rfl ?_
          exact e_mask (L' := [some (.inr (.inr (some (2, i0)))), some (.inr (.inr (some (5, i1)))), some (.inl a2), none, none, some (.inl v1), none, none]) rfl (hk9 _ hres)
    · refine e_if (s1 := (65, [some (.inr (.inr (some (2, i0)))), some (.inr (.inr (some (5, i1)))), some (.inl a2), some (.inl a3), some (.inl a4), some (.inl v1), some (.inl v2), none], [.inl 2, .inr (.inr (some (23, i0)))], m4)) (s2 := (60, [some (.inr (.inr (some (2, i0)))), some (.inr (.inr (some (5, i1)))), some (.inl a2), some (.inl a3), some (.inl a4), some (.inl v1), some (.inl v2), none], [.inl 2, .inr (.inr (some (23, i0)))], m4)) rfl hres (fun hc hres => ?_) (fun hc hres => ?_)
      · refine e_steps 1 (s' := (66, [some (.inr (.inr (some (2, i0)))), some (.inr (.inr (some (5, i1)))), some (.inl a2), some (.inl a3), some (.inl a4), some (.inl v1), some (.inl v2), none], [.inl 0, .inl 2, .inr (.inr (some (23, i0)))], m4)) rfl ?_
        exact e_mask (L' := [some (.inr (.inr (some (2, i0)))), some (.inr (.inr (some (5, i1)))), some (.inl a2), none, none, some (.inl v1), some (.inl v2), none]) rfl (hk6 _ hres)
      · refine e_steps 2 (s' := (66, [some (.inr (.inr (some (2, i0)))), some (.inr (.inr (some (5, i1)))), some (.inl a2), some (.inl a3), some (.inl a4), some (.inl v1), some (.inl v2), none], [.inl v2, .inl 2, .inr (.inr (some (23, i0)))], m4)) rfl ?_
        exact e_mask (L' := [some (.inr (.inr (some (2, i0)))), some (.inr (.inr (some (5, i1)))), some (.inl a2), none, none, some (.inl v1), some (.inl v2), none]) rfl (hk6 _ hres)
  · refine e_steps 2 (s' := (31, [some (.inr (.inr (some (2, i0)))), some (.inr (.inr (some (5, i1)))), some (.inl a2), some (.inl a3), some (.inl a4), some (.inl v1), some (.inl v2), none], [.inl v2, .inl v1], m)) rfl ?_
    obtain ⟨r14, hv, hres⟩ := mm_b1_some hres
    refine e_call0 (pc := 34) (L := [some (.inr (.inr (some (2, i0)))), some (.inr (.inr (some (5, i1)))), some (.inl a2), some (.inl a3), some (.inl a4), some (.inl v1), some (.inl v2), none]) (st := []) (m' := m) (v := some (.inl r14)) rfl (k_X3_usualLoss d (by omega) v1 v2 _ _ hv) ?_
    show mm_E (d + 1) 80 (34, [some (.inr (.inr (some (2, i0)))), some (.inr (.inr (some (5, i1)))), some (.inl a2), some (.inl a3), some (.inl a4), some (.inl v1), some (.inl v2), none], [.inl r14], m) (.inl (some (.inl r.1)), r.2, 0, 0)
    obtain rfl := Option.some.inj hres
    exact e_ret rfl rfl
