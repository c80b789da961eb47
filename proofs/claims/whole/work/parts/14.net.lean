/-- GlassThreads$Way.clear()V -/
def f_X10_clear (i0 : Nat) (m : mm_M) : Option (mm_M) :=
mm_let (mm_w m 10 i0 1 0) fun m1 =>
mm_let (mm_w m1 10 i0 2 0) fun m2 =>
mm_let (mm_w m2 10 i0 3 0) fun m3 =>
some m3
set_option maxHeartbeats 4000000 in
set_option maxRecDepth 100000 in
theorem k_X10_clear (d : Nat) (hd : 0 ≤ d) (i0 : Nat) (m : mm_M) (r : mm_M) (hres : f_X10_clear i0 m = some r) : mm_X d 149 [.inr (.inr (some (10, i0)))] m (.inl none, r, 0, 0) := by
  unfold f_X10_clear at hres
  show mm_E d 149 (0, [some (.inr (.inr (some (10, i0))))], [], m) (.inl none, r, 0, 0)
  refine e_steps 3 (s' := (5, [some (.inr (.inr (some (10, i0))))], [], (mm_w m 10 i0 1 0))) rfl ?_
  refine e_let (fun (m1 : mm_M) => (5, [some (.inr (.inr (some (10, i0))))], [], m1)) hres (fun m1 hres => ?_)
  refine e_steps 3 (s' := (10, [some (.inr (.inr (some (10, i0))))], [], (mm_w m1 10 i0 2 0))) rfl ?_
  refine e_let (fun (m2 : mm_M) => (10, [some (.inr (.inr (some (10, i0))))], [], m2)) hres (fun m2 hres => ?_)
  refine e_steps 3 (s' := (15, [some (.inr (.inr (some (10, i0))))], [], (mm_w m2 10 i0 3 0))) rfl ?_
  refine e_let (fun (m3 : mm_M) => (15, [some (.inr (.inr (some (10, i0))))], [], m3)) hres (fun m3 hres => ?_)
  obtain rfl := Option.some.inj hres
  exact e_ret rfl rfl
/-- GlassThreads$Way.add(II)V -/
def f_X10_add (i0 : Nat) (a1 : Int32) (a2 : Int32) (m : mm_M) : Option (mm_M) :=
if 8 ≤ (m 10 i0 1) then (some m)
else (if mm_in (m 10 i0 1) 8 then (
mm_let (mm_w m 62 i0 ((m 10 i0 1).toNatClampNeg) a1) fun m1 =>
mm_let (mm_w m1 10 i0 1 ((m1 10 i0 1) + 1)) fun m2 =>
mm_let (mm_w m2 10 i0 2 ((m2 10 i0 2) + a2)) fun m3 =>
mm_let (mm_w m3 10 i0 3 ((m3 10 i0 3) ||| (1 <<< (a1 &&& 31)))) fun m4 =>
some m4) else none)
set_option maxHeartbeats 4000000 in
set_option maxRecDepth 100000 in
theorem k_X10_add (d : Nat) (hd : 0 ≤ d) (i0 : Nat) (a1 : Int32) (a2 : Int32) (m : mm_M) (r : mm_M) (hres : f_X10_add i0 a1 a2 m = some r) : mm_X d 150 [.inr (.inr (some (10, i0))), .inl a1, .inl a2] m (.inl none, r, 0, 0) := by
  unfold f_X10_add at hres
  show mm_E d 150 (0, [some (.inr (.inr (some (10, i0)))), some (.inl a1), some (.inl a2)], [], m) (.inl none, r, 0, 0)
  refine e_steps 5 (s' := (9, [some (.inr (.inr (some (10, i0)))), some (.inl a1), some (.inl a2)], [.inl 8, .inl (m 10 i0 1)], m)) rfl ?_
  refine e_if (s1 := (54, [some (.inr (.inr (some (10, i0)))), some (.inl a1), some (.inl a2)], [], m)) (s2 := (12, [some (.inr (.inr (some (10, i0)))), some (.inl a1), some (.inl a2)], [], m)) rfl hres (fun hc hres => ?_) (fun hc hres => ?_)
  · refine e_mask (L' := [none, none, none]) rfl ?_
    obtain rfl := Option.some.inj hres
    exact e_ret rfl rfl
  · refine e_steps 5 (s' := (21, [some (.inr (.inr (some (10, i0)))), some (.inl a1), some (.inl a2)], [.inl a1, .inl (m 10 i0 1), .inr (.inr (some (62, i0)))], m)) rfl ?_
    refine e_gd (s1 := (22, [some (.inr (.inr (some (10, i0)))), some (.inl a1), some (.inl a2)], [], (mm_w m 62 i0 ((m 10 i0 1).toNatClampNeg) a1))) rfl hres (fun hc hres => ?_)
    refine e_let (fun (m1 : mm_M) => (22, [some (.inr (.inr (some (10, i0)))), some (.inl a1), some (.inl a2)], [], m1)) hres (fun m1 hres => ?_)
    refine e_steps 6 (s' := (32, [some (.inr (.inr (some (10, i0)))), some (.inl a1), some (.inl a2)], [], (mm_w m1 10 i0 1 ((m1 10 i0 1) + 1)))) rfl ?_
    refine e_let (fun (m2 : mm_M) => (32, [some (.inr (.inr (some (10, i0)))), some (.inl a1), some (.inl a2)], [], m2)) hres (fun m2 hres => ?_)
    refine e_steps 6 (s' := (42, [some (.inr (.inr (some (10, i0)))), some (.inl a1), some (.inl a2)], [], (mm_w m2 10 i0 2 ((m2 10 i0 2) + a2)))) rfl ?_
    refine e_let (fun (m3 : mm_M) => (42, [some (.inr (.inr (some (10, i0)))), some (.inl a1), some (.inl a2)], [], m3)) hres (fun m3 hres => ?_)
    refine e_steps 8 (s' := (54, [some (.inr (.inr (some (10, i0)))), some (.inl a1), some (.inl a2)], [], (mm_w m3 10 i0 3 ((m3 10 i0 3) ||| (1 <<< (a1 &&& 31)))))) rfl ?_
    refine e_let (fun (m4 : mm_M) => (54, [some (.inr (.inr (some (10, i0)))), some (.inl a1), some (.inl a2)], [], m4)) hres (fun m4 hres => ?_)
    refine e_mask (L' := [none, none, none]) rfl ?_
    obtain rfl := Option.some.inj hres
    exact e_ret rfl rfl
/-- GlassThreads$Way.dropLast(I)V -/
def f_X10_dropLast (i0 : Nat) (a1 : Int32) (m : mm_M) : Option (mm_M) :=
if (m 10 i0 1) ≤ 0 then (some m)
else (mm_let (mm_w m 10 i0 1 ((m 10 i0 1) - 1)) fun m1 =>
mm_let (mm_w m1 10 i0 2 ((m1 10 i0 2) - a1)) fun m2 =>
if mm_in (m2 10 i0 1) 8 then (
mm_let (mm_w m2 10 i0 3 ((m2 10 i0 3) &&& ((1 <<< ((m2 62 i0 (m2 10 i0 1).toNatClampNeg) &&& 31)) ^^^ (-1)))) fun m3 =>
some m3) else none)
set_option maxHeartbeats 4000000 in
set_option maxRecDepth 100000 in
theorem k_X10_dropLast (d : Nat) (hd : 0 ≤ d) (i0 : Nat) (a1 : Int32) (m : mm_M) (r : mm_M) (hres : f_X10_dropLast i0 a1 m = some r) : mm_X d 151 [.inr (.inr (some (10, i0))), .inl a1] m (.inl none, r, 0, 0) := by
  unfold f_X10_dropLast at hres
  show mm_E d 151 (0, [some (.inr (.inr (some (10, i0)))), some (.inl a1)], [], m) (.inl none, r, 0, 0)
  refine e_steps 2 (s' := (4, [some (.inr (.inr (some (10, i0)))), some (.inl a1)], [.inl (m 10 i0 1)], m)) rfl ?_
  refine e_if (s1 := (49, [some (.inr (.inr (some (10, i0)))), some (.inl a1)], [], m)) (s2 := (7, [some (.inr (.inr (some (10, i0)))), some (.inl a1)], [], m)) rfl hres (fun hc hres => ?_) (fun hc hres => ?_)
  · refine e_mask (L' := [none, none]) rfl ?_
    obtain rfl := Option.some.inj hres
    exact e_ret rfl rfl
  · refine e_steps 6 (s' := (17, [some (.inr (.inr (some (10, i0)))), some (.inl a1)], [], (mm_w m 10 i0 1 ((m 10 i0 1) - 1)))) rfl ?_
    refine e_let (fun (m1 : mm_M) => (17, [some (.inr (.inr (some (10, i0)))), some (.inl a1)], [], m1)) hres (fun m1 hres => ?_)
    refine e_steps 6 (s' := (27, [some (.inr (.inr (some (10, i0)))), some (.inl a1)], [], (mm_w m1 10 i0 2 ((m1 10 i0 2) - a1)))) rfl ?_
    refine e_let (fun (m2 : mm_M) => (27, [some (.inr (.inr (some (10, i0)))), some (.inl a1)], [], m2)) hres (fun m2 hres => ?_)
    refine e_steps 8 (s' := (41, [some (.inr (.inr (some (10, i0)))), some (.inl a1)], [.inl (m2 10 i0 1), .inr (.inr (some (62, i0))), .inl 1, .inl (m2 10 i0 3), .inr (.inr (some (10, i0)))], m2)) rfl ?_
    refine e_gd (s1 := (42, [some (.inr (.inr (some (10, i0)))), some (.inl a1)], [.inl (m2 62 i0 (m2 10 i0 1).toNatClampNeg), .inl 1, .inl (m2 10 i0 3), .inr (.inr (some (10, i0)))], m2)) rfl hres (fun hc hres => ?_)
    refine e_steps 5 (s' := (49, [some (.inr (.inr (some (10, i0)))), some (.inl a1)], [], (mm_w m2 10 i0 3 ((m2 10 i0 3) &&& ((1 <<< ((m2 62 i0 (m2 10 i0 1).toNatClampNeg) &&& 31)) ^^^ (-1)))))) rfl ?_
    refine e_let (fun (m3 : mm_M) => (49, [some (.inr (.inr (some (10, i0)))), some (.inl a1)], [], m3)) hres (fun m3 hres => ?_)
    refine e_mask (L' := [none, none]) rfl ?_
    obtain rfl := Option.some.inj hres
    exact e_ret rfl rfl
/-- GlassThreads$Way.takeOver(LGlassThreads$Way;)V -/
def f_X10_takeOver (i0 : Nat) (i1 : Nat) (m : mm_M) : Option (mm_M) :=
if (0 ≤ (0 : Int32) ∧ 0 ≤ (0 : Int32) ∧ 0 ≤ (8 : Int32)) ∧ 0 + 8 ≤ 8 ∧ 0 + 8 ≤ 8 then (
mm_let (mm_wa m 62 i0 (va_cpy (m 62 i1) (m 62 i0) 0 0 8)) fun m1 =>
mm_let (mm_w m1 10 i0 1 (m1 10 i1 1)) fun m2 =>
mm_let (mm_w m2 10 i0 2 (m2 10 i1 2)) fun m3 =>
mm_let (mm_w m3 10 i0 3 (m3 10 i1 3)) fun m4 =>
some m4) else none
set_option maxHeartbeats 4000000 in
set_option maxRecDepth 100000 in
theorem k_X10_takeOver (d : Nat) (hd : 0 ≤ d) (i0 : Nat) (i1 : Nat) (m : mm_M) (r : mm_M) (hres : f_X10_takeOver i0 i1 m = some r) : mm_X d 152 [.inr (.inr (some (10, i0))), .inr (.inr (some (10, i1)))] m (.inl none, r, 0, 0) := by
  unfold f_X10_takeOver at hres
  show mm_E d 152 (0, [some (.inr (.inr (some (10, i0)))), some (.inr (.inr (some (10, i1))))], [], m) (.inl none, r, 0, 0)
  refine e_steps 7 (s' := (12, [some (.inr (.inr (some (10, i0)))), some (.inr (.inr (some (10, i1))))], [.inl 8, .inl 0, .inr (.inr (some (62, i0))), .inl 0, .inr (.inr (some (62, i1)))], m)) rfl ?_
  refine e_gd (s1 := (15, [some (.inr (.inr (some (10, i0)))), some (.inr (.inr (some (10, i1))))], [], (mm_wa m 62 i0 (va_cpy (m 62 i1) (m 62 i0) 0 0 8)))) rfl hres (fun hc hres => ?_)
  refine e_let (fun (m1 : mm_M) => (15, [some (.inr (.inr (some (10, i0)))), some (.inr (.inr (some (10, i1))))], [], m1)) hres (fun m1 hres => ?_)
  refine e_steps 4 (s' := (23, [some (.inr (.inr (some (10, i0)))), some (.inr (.inr (some (10, i1))))], [], (mm_w m1 10 i0 1 (m1 10 i1 1)))) rfl ?_
  refine e_let (fun (m2 : mm_M) => (23, [some (.inr (.inr (some (10, i0)))), some (.inr (.inr (some (10, i1))))], [], m2)) hres (fun m2 hres => ?_)
  refine e_steps 4 (s' := (31, [some (.inr (.inr (some (10, i0)))), some (.inr (.inr (some (10, i1))))], [], (mm_w m2 10 i0 2 (m2 10 i1 2)))) rfl ?_
  refine e_let (fun (m3 : mm_M) => (31, [some (.inr (.inr (some (10, i0)))), some (.inr (.inr (some (10, i1))))], [], m3)) hres (fun m3 hres => ?_)
  refine e_steps 4 (s' := (39, [some (.inr (.inr (some (10, i0)))), some (.inr (.inr (some (10, i1))))], [], (mm_w m3 10 i0 3 (m3 10 i1 3)))) rfl ?_
  refine e_let (fun (m4 : mm_M) => (39, [some (.inr (.inr (some (10, i0)))), some (.inr (.inr (some (10, i1))))], [], m4)) hres (fun m4 hres => ?_)
  obtain rfl := Option.some.inj hres
  exact e_ret rfl rfl
/-- GlassThreads$Way.isLessThan(LGlassThreads$Way;)Z -/
def f_X10_isLessThan (i0 : Nat) (i1 : Nat) (m : mm_M) : Option (Int32) :=
if (m 10 i0 2) < (m 10 i1 2) then (some 1)
else (if (m 10 i0 2) ≠ (m 10 i1 2) then (some 0)
else (if (m 10 i1 1) ≤ (m 10 i0 1) then (some 0)
else (some 1)))
set_option maxHeartbeats 4000000 in
set_option maxRecDepth 100000 in
theorem k_X10_isLessThan (d : Nat) (hd : 0 ≤ d) (i0 : Nat) (i1 : Nat) (m : mm_M) (r : Int32) (hres : f_X10_isLessThan i0 i1 m = some r) : mm_X d 153 [.inr (.inr (some (10, i0))), .inr (.inr (some (10, i1)))] m (.inl (some (.inl r)), m, 0, 0) := by
  unfold f_X10_isLessThan at hres
  show mm_E d 153 (0, [some (.inr (.inr (some (10, i0)))), some (.inr (.inr (some (10, i1))))], [], m) (.inl (some (.inl r)), m, 0, 0)
  refine e_steps 4 (s' := (8, [some (.inr (.inr (some (10, i0)))), some (.inr (.inr (some (10, i1))))], [.inl (m 10 i1 2), .inl (m 10 i0 2)], m)) rfl ?_
  refine e_if (s1 := (33, [some (.inr (.inr (some (10, i0)))), some (.inr (.inr (some (10, i1))))], [], m)) (s2 := (11, [some (.inr (.inr (some (10, i0)))), some (.inr (.inr (some (10, i1))))], [], m)) rfl hres (fun hc hres => ?_) (fun hc hres => ?_)
  · refine e_mask (L' := [none, none]) rfl ?_
    refine e_steps 2 (s' := (38, [none, none], [.inl 1], m)) rfl ?_
    obtain rfl := Option.some.inj hres
    exact e_ret rfl rfl
  · refine e_steps 4 (s' := (19, [some (.inr (.inr (some (10, i0)))), some (.inr (.inr (some (10, i1))))], [.inl (m 10 i1 2), .inl (m 10 i0 2)], m)) rfl ?_
    refine e_if (s1 := (37, [some (.inr (.inr (some (10, i0)))), some (.inr (.inr (some (10, i1))))], [], m)) (s2 := (22, [some (.inr (.inr (some (10, i0)))), some (.inr (.inr (some (10, i1))))], [], m)) rfl hres (fun hc hres => ?_) (fun hc hres => ?_)
    · refine e_mask (L' := [none, none]) rfl ?_
      refine e_steps 1 (s' := (38, [none, none], [.inl 0], m)) rfl ?_
      obtain rfl := Option.some.inj hres
      exact e_ret rfl rfl
    · refine e_steps 4 (s' := (30, [some (.inr (.inr (some (10, i0)))), some (.inr (.inr (some (10, i1))))], [.inl (m 10 i1 1), .inl (m 10 i0 1)], m)) rfl ?_
      refine e_if (s1 := (37, [some (.inr (.inr (some (10, i0)))), some (.inr (.inr (some (10, i1))))], [], m)) (s2 := (33, [some (.inr (.inr (some (10, i0)))), some (.inr (.inr (some (10, i1))))], [], m)) rfl hres (fun hc hres => ?_) (fun hc hres => ?_)
      · refine e_mask (L' := [none, none]) rfl ?_
        refine e_steps 1 (s' := (38, [none, none], [.inl 0], m)) rfl ?_
        obtain rfl := Option.some.inj hres
        exact e_ret rfl rfl
      · refine e_mask (L' := [none, none]) rfl ?_
        refine e_steps 2 (s' := (38, [none, none], [.inl 1], m)) rfl ?_
        obtain rfl := Option.some.inj hres
        exact e_ret rfl rfl
/-- GlassThreads$Net.addCable(IIII)I -/
def f_X4_addCable (a1 : Int32) (a2 : Int32) (a3 : Int32) (a4 : Int32) (m : mm_M) : Option (Int32 × mm_M) :=
if (m 9 0 5) < 10 then (if mm_in (m 9 0 5) 10 then (
mm_let (mm_w m 52 0 ((m 9 0 5).toNatClampNeg) a1) fun m1 =>
if mm_in (m1 9 0 5) 10 then (
mm_let (mm_w m1 53 0 ((m1 9 0 5).toNatClampNeg) a2) fun m2 =>
if mm_in (m2 9 0 5) 10 then (
mm_let (mm_w m2 54 0 ((m2 9 0 5).toNatClampNeg) a3) fun m3 =>
if mm_in (m3 9 0 5) 10 then (
mm_let (mm_w m3 55 0 ((m3 9 0 5).toNatClampNeg) a4) fun m4 =>
mm_let (mm_w m4 9 0 5 ((m4 9 0 5) + 1)) fun m5 =>
some (((m5 9 0 5) - 1), m5)) else none) else none) else none) else none)
else (some ((-1), m))
set_option maxHeartbeats 4000000 in
set_option maxRecDepth 100000 in
theorem k_X4_addCable (d : Nat) (hd : 0 ≤ d) (a1 : Int32) (a2 : Int32) (a3 : Int32) (a4 : Int32) (m : mm_M) (r : Int32 × mm_M) (hres : f_X4_addCable a1 a2 a3 a4 m = some r) : mm_X d 132 [.inr (.inr (some (9, 0))), .inl a1, .inl a2, .inl a3, .inl a4] m (.inl (some (.inl r.1)), r.2, 0, 0) := by
  unfold f_X4_addCable at hres
  show mm_E d 132 (0, [some (.inr (.inr (some (9, 0)))), some (.inl a1), some (.inl a2), some (.inl a3), some (.inl a4)], [], m) (.inl (some (.inl r.1)), r.2, 0, 0)
  refine e_steps 3 (s' := (6, [some (.inr (.inr (some (9, 0)))), some (.inl a1), some (.inl a2), some (.inl a3), some (.inl a4)], [.inl 10, .inl (m 9 0 5)], m)) rfl ?_
  refine e_if (s1 := (11, [some (.inr (.inr (some (9, 0)))), some (.inl a1), some (.inl a2), some (.inl a3), some (.inl a4)], [], m)) (s2 := (9, [some (.inr (.inr (some (9, 0)))), some (.inl a1), some (.inl a2), some (.inl a3), some (.inl a4)], [], m)) rfl hres (fun hc hres => ?_) (fun hc hres => ?_)
  · refine e_steps 5 (s' := (20, [some (.inr (.inr (some (9, 0)))), some (.inl a1), some (.inl a2), some (.inl a3), some (.inl a4)], [.inl a1, .inl (m 9 0 5), .inr (.inr (some (52, 0)))], m)) rfl ?_
    refine e_gd (s1 := (21, [some (.inr (.inr (some (9, 0)))), some (.inl a1), some (.inl a2), some (.inl a3), some (.inl a4)], [], (mm_w m 52 0 ((m 9 0 5).toNatClampNeg) a1))) rfl hres (fun hc hres => ?_)
    refine e_let (fun (m1 : mm_M) => (21, [some (.inr (.inr (some (9, 0)))), some (.inl a1), some (.inl a2), some (.inl a3), some (.inl a4)], [], m1)) hres (fun m1 hres => ?_)
    refine e_steps 5 (s' := (30, [some (.inr (.inr (some (9, 0)))), some (.inl a1), some (.inl a2), some (.inl a3), some (.inl a4)], [.inl a2, .inl (m1 9 0 5), .inr (.inr (some (53, 0)))], m1)) rfl ?_
    refine e_gd (s1 := (31, [some (.inr (.inr (some (9, 0)))), some (.inl a1), some (.inl a2), some (.inl a3), some (.inl a4)], [], (mm_w m1 53 0 ((m1 9 0 5).toNatClampNeg) a2))) rfl hres (fun hc hres => ?_)
    refine e_let (fun (m2 : mm_M) => (31, [some (.inr (.inr (some (9, 0)))), some (.inl a1), some (.inl a2), some (.inl a3), some (.inl a4)], [], m2)) hres (fun m2 hres => ?_)
    refine e_steps 5 (s' := (40, [some (.inr (.inr (some (9, 0)))), some (.inl a1), some (.inl a2), some (.inl a3), some (.inl a4)], [.inl a3, .inl (m2 9 0 5), .inr (.inr (some (54, 0)))], m2)) rfl ?_
    refine e_gd (s1 := (41, [some (.inr (.inr (some (9, 0)))), some (.inl a1), some (.inl a2), some (.inl a3), some (.inl a4)], [], (mm_w m2 54 0 ((m2 9 0 5).toNatClampNeg) a3))) rfl hres (fun hc hres => ?_)
    refine e_let (fun (m3 : mm_M) => (41, [some (.inr (.inr (some (9, 0)))), some (.inl a1), some (.inl a2), some (.inl a3), some (.inl a4)], [], m3)) hres (fun m3 hres => ?_)
    refine e_steps 5 (s' := (51, [some (.inr (.inr (some (9, 0)))), some (.inl a1), some (.inl a2), some (.inl a3), some (.inl a4)], [.inl a4, .inl (m3 9 0 5), .inr (.inr (some (55, 0)))], m3)) rfl ?_
    refine e_gd (s1 := (52, [some (.inr (.inr (some (9, 0)))), some (.inl a1), some (.inl a2), some (.inl a3), some (.inl a4)], [], (mm_w m3 55 0 ((m3 9 0 5).toNatClampNeg) a4))) rfl hres (fun hc hres => ?_)
    refine e_let (fun (m4 : mm_M) => (52, [some (.inr (.inr (some (9, 0)))), some (.inl a1), some (.inl a2), some (.inl a3), some (.inl a4)], [], m4)) hres (fun m4 hres => ?_)
    refine e_steps 6 (s' := (62, [some (.inr (.inr (some (9, 0)))), some (.inl a1), some (.inl a2), some (.inl a3), some (.inl a4)], [], (mm_w m4 9 0 5 ((m4 9 0 5) + 1)))) rfl ?_
    refine e_let (fun (m5 : mm_M) => (62, [some (.inr (.inr (some (9, 0)))), some (.inl a1), some (.inl a2), some (.inl a3), some (.inl a4)], [], m5)) hres (fun m5 hres => ?_)
    refine e_steps 4 (s' := (68, [some (.inr (.inr (some (9, 0)))), some (.inl a1), some (.inl a2), some (.inl a3), some (.inl a4)], [.inl ((m5 9 0 5) - 1)], m5)) rfl ?_
    obtain rfl := Option.some.inj hres
    exact e_ret rfl rfl
  · refine e_steps 1 (s' := (10, [some (.inr (.inr (some (9, 0)))), some (.inl a1), some (.inl a2), some (.inl a3), some (.inl a4)], [.inl (-1)], m)) rfl ?_
    obtain rfl := Option.some.inj hres
    exact e_ret rfl rfl
/-- GlassThreads$Net.addTask(II)I -/
def f_X4_addTask (a1 : Int32) (a2 : Int32) (m : mm_M) : Option (Int32 × mm_M) :=
if (m 9 0 8) < 6 then (if mm_in (m 9 0 8) 6 then (
mm_let (mm_w m 57 0 ((m 9 0 8).toNatClampNeg) a1) fun m1 =>
if mm_in (m1 9 0 8) 6 then (
mm_let (mm_w m1 58 0 ((m1 9 0 8).toNatClampNeg) a2) fun m2 =>
mm_let (mm_w m2 9 0 8 ((m2 9 0 8) + 1)) fun m3 =>
some (((m3 9 0 8) - 1), m3)) else none) else none)
else (some ((-1), m))
set_option maxHeartbeats 4000000 in
set_option maxRecDepth 100000 in
theorem k_X4_addTask (d : Nat) (hd : 0 ≤ d) (a1 : Int32) (a2 : Int32) (m : mm_M) (r : Int32 × mm_M) (hres : f_X4_addTask a1 a2 m = some r) : mm_X d 133 [.inr (.inr (some (9, 0))), .inl a1, .inl a2] m (.inl (some (.inl r.1)), r.2, 0, 0) := by
  unfold f_X4_addTask at hres
  show mm_E d 133 (0, [some (.inr (.inr (some (9, 0)))), some (.inl a1), some (.inl a2)], [], m) (.inl (some (.inl r.1)), r.2, 0, 0)
  refine e_steps 3 (s' := (6, [some (.inr (.inr (some (9, 0)))), some (.inl a1), some (.inl a2)], [.inl 6, .inl (m 9 0 8)], m)) rfl ?_
  refine e_if (s1 := (11, [some (.inr (.inr (some (9, 0)))), some (.inl a1), some (.inl a2)], [], m)) (s2 := (9, [some (.inr (.inr (some (9, 0)))), some (.inl a1), some (.inl a2)], [], m)) rfl hres (fun hc hres => ?_) (fun hc hres => ?_)
  · refine e_steps 5 (s' := (20, [some (.inr (.inr (some (9, 0)))), some (.inl a1), some (.inl a2)], [.inl a1, .inl (m 9 0 8), .inr (.inr (some (57, 0)))], m)) rfl ?_
    refine e_gd (s1 := (21, [some (.inr (.inr (some (9, 0)))), some (.inl a1), some (.inl a2)], [], (mm_w m 57 0 ((m 9 0 8).toNatClampNeg) a1))) rfl hres (fun hc hres => ?_)
    refine e_let (fun (m1 : mm_M) => (21, [some (.inr (.inr (some (9, 0)))), some (.inl a1), some (.inl a2)], [], m1)) hres (fun m1 hres => ?_)
    refine e_steps 5 (s' := (30, [some (.inr (.inr (some (9, 0)))), some (.inl a1), some (.inl a2)], [.inl a2, .inl (m1 9 0 8), .inr (.inr (some (58, 0)))], m1)) rfl ?_
    refine e_gd (s1 := (31, [some (.inr (.inr (some (9, 0)))), some (.inl a1), some (.inl a2)], [], (mm_w m1 58 0 ((m1 9 0 8).toNatClampNeg) a2))) rfl hres (fun hc hres => ?_)
    refine e_let (fun (m2 : mm_M) => (31, [some (.inr (.inr (some (9, 0)))), some (.inl a1), some (.inl a2)], [], m2)) hres (fun m2 hres => ?_)
    refine e_steps 6 (s' := (41, [some (.inr (.inr (some (9, 0)))), some (.inl a1), some (.inl a2)], [], (mm_w m2 9 0 8 ((m2 9 0 8) + 1)))) rfl ?_
    refine e_let (fun (m3 : mm_M) => (41, [some (.inr (.inr (some (9, 0)))), some (.inl a1), some (.inl a2)], [], m3)) hres (fun m3 hres => ?_)
    refine e_steps 4 (s' := (47, [some (.inr (.inr (some (9, 0)))), some (.inl a1), some (.inl a2)], [.inl ((m3 9 0 8) - 1)], m3)) rfl ?_
    obtain rfl := Option.some.inj hres
    exact e_ret rfl rfl
  · refine e_steps 1 (s' := (10, [some (.inr (.inr (some (9, 0)))), some (.inl a1), some (.inl a2)], [.inl (-1)], m)) rfl ?_
    obtain rfl := Option.some.inj hres
    exact e_ret rfl rfl
/-- GlassThreads$Net.weigh([LGlassThreads$Strand;LGlassThreads$Law;)V -/
def f_X4_weigh (i2 : Nat) (m : mm_M) : Option (mm_M) :=
(mm_b1 (mm_loop (σ := Int32 × mm_M) (ρ := (mm_M)) (fun (s : Int32 × mm_M) => match s with
| (v2, m3) => (if (m3 9 0 5) ≤ v2 then (some (.inr m3))
else (if mm_in v2 10 then (
if mm_in (m3 54 0 v2.toNatClampNeg) 8 then (
mm_let (0 + (m3 54 0 v2.toNatClampNeg).toNatClampNeg) fun i4 =>
(mm_b1 (mm_loop (σ := Int32 × Int32 × mm_M) (ρ := (Int32 × mm_M)) (fun (s : Int32 × Int32 × mm_M) => match s with
| (v6, v7, m8) => (if (m8 5 i4 4) ≤ v7 then (some (.inr (v6, m8)))
else (if mm_in v7 24 then (
if (m8 37 i4 v7.toNatClampNeg) = 3 then (mm_let (v7 + 1) fun v9 =>
some (.inl (v6, v9, m8)))
else (mm_b2 (f_X3_lossOf i2 i4 v7 0 0 m8) fun r10 m11 =>
mm_let (v6 + r10) fun v12 =>
mm_let (v7 + 1) fun v13 =>
some (.inl (v12, v13, m11)))) else none) : Option ((Int32 × Int32 × mm_M) ⊕ ((Int32 × mm_M))))) mm_fu (0, 0, m3)) fun t => match t with
| (v14, m15) => if mm_in v2 10 then (
mm_let (mm_w m15 56 0 v2.toNatClampNeg (mm_max 1 v14)) fun m16 =>
mm_let (v2 + 1) fun v17 =>
some (.inl (v17, m16))) else none)) else none) else none) : Option ((Int32 × mm_M) ⊕ ((mm_M))))) mm_fu (0, m)) fun m18 =>
some m18)
set_option maxHeartbeats 4000000 in
set_option maxRecDepth 100000 in
theorem k_X4_weigh (d : Nat) (hd : 4 ≤ d) (i2 : Nat) (m : mm_M) (r : mm_M) (hres : f_X4_weigh i2 m = some r) : mm_X d 134 [.inr (.inr (some (9, 0))), .inr (.inr (some (13, 0))), .inr (.inr (some (2, i2)))] m (.inl none, r, 0, 0) := by
  unfold f_X4_weigh at hres
  obtain ⟨d, rfl⟩ : ∃ e, d = e + 1 := ⟨d - 1, by omega⟩
  show mm_E (d + 1) 134 (0, [some (.inr (.inr (some (9, 0)))), some (.inr (.inr (some (13, 0)))), some (.inr (.inr (some (2, i2)))), none, none, none, none], [], m) (.inl none, r, 0, 0)
  refine e_steps 2 (s' := (2, [some (.inr (.inr (some (9, 0)))), some (.inr (.inr (some (13, 0)))), some (.inr (.inr (some (2, i2)))), some (.inl 0), none, none, none], [], m)) rfl ?_
  refine e_mask (L' := [some (.inr (.inr (some (9, 0)))), some (.inr (.inr (some (13, 0)))), some (.inr (.inr (some (2, i2)))), some (.inl 0), none, none, none]) rfl ?_
  refine e_loopb (φ := fun s => (2, [some (.inr (.inr (some (9, 0)))), some (.inr (.inr (some (13, 0)))), some (.inr (.inr (some (2, i2)))), some (.inl s.1), none, none, none], [], s.2)) (K := fun t => mm_E (d + 1) 134 (87, [none, none, none, none, none, none, none], [], t) (.inl none, r, 0, 0)) hres (fun m18 hres => ?_) (fun s ol1 hres hcl1 hxl1 => ?_)
  · show mm_E (d + 1) 134 (87, [none, none, none, none, none, none, none], [], m18) (.inl none, r, 0, 0)
    obtain rfl := Option.some.inj hres
    exact e_ret rfl rfl
  · obtain ⟨v2, m3⟩ := s
    show mm_E (d + 1) 134 (2, [some (.inr (.inr (some (9, 0)))), some (.inr (.inr (some (13, 0)))), some (.inr (.inr (some (2, i2)))), some (.inl v2), none, none, none], [], m3) (.inl none, r, 0, 0)
    refine e_steps 3 (s' := (7, [some (.inr (.inr (some (9, 0)))), some (.inr (.inr (some (13, 0)))), some (.inr (.inr (some (2, i2)))), some (.inl v2), none, none, none], [.inl (m3 9 0 5), .inl v2], m3)) rfl ?_
    refine e_if (s1 := (87, [some (.inr (.inr (some (9, 0)))), some (.inr (.inr (some (13, 0)))), some (.inr (.inr (some (2, i2)))), some (.inl v2), none, none, none], [], m3)) (s2 := (10, [some (.inr (.inr (some (9, 0)))), some (.inr (.inr (some (13, 0)))), some (.inr (.inr (some (2, i2)))), some (.inl v2), none, none, none], [], m3)) rfl hres (fun hc hres => ?_) (fun hc hres => ?_)
    · obtain rfl := Option.some.inj hres
      exact e_mask (L' := [none, none, none, none, none, none, none]) rfl (hxl1 _ rfl)
    · refine e_steps 4 (s' := (16, [some (.inr (.inr (some (9, 0)))), some (.inr (.inr (some (13, 0)))), some (.inr (.inr (some (2, i2)))), some (.inl v2), none, none, none], [.inl v2, .inr (.inr (some (54, 0))), .inr (.inr (some (13, 0)))], m3)) rfl ?_
      refine e_gd (s1 := (17, [some (.inr (.inr (some (9, 0)))), some (.inr (.inr (some (13, 0)))), some (.inr (.inr (some (2, i2)))), some (.inl v2), none, none, none], [.inl (m3 54 0 v2.toNatClampNeg), .inr (.inr (some (13, 0)))], m3)) rfl hres (fun hc hres => ?_)
      refine e_gd (s1 := (18, [some (.inr (.inr (some (9, 0)))), some (.inr (.inr (some (13, 0)))), some (.inr (.inr (some (2, i2)))), some (.inl v2), none, none, none], [.inr (.inr (some (5, (0 + (m3 54 0 v2.toNatClampNeg).toNatClampNeg))))], m3)) rfl hres (fun hc hres => ?_)
      refine e_let (fun (i4 : Nat) => (18, [some (.inr (.inr (some (9, 0)))), some (.inr (.inr (some (13, 0)))), some (.inr (.inr (some (2, i2)))), some (.inl v2), none, none, none], [.inr (.inr (some (5, i4)))], m3)) hres (fun i4 hres => ?_)
      refine e_steps 5 (s' := (26, [some (.inr (.inr (some (9, 0)))), some (.inr (.inr (some (13, 0)))), some (.inr (.inr (some (2, i2)))), some (.inl v2), some (.inr (.inr (some (5, i4)))), some (.inl 0), some (.inl 0)], [], m3)) rfl ?_
      refine e_mask (L' := [some (.inr (.inr (some (9, 0)))), some (.inr (.inr (some (13, 0)))), some (.inr (.inr (some (2, i2)))), some (.inl v2), some (.inr (.inr (some (5, i4)))), some (.inl 0), some (.inl 0)]) rfl ?_
      refine e_loopb (φ := fun s => (26, [some (.inr (.inr (some (9, 0)))), some (.inr (.inr (some (13, 0)))), some (.inr (.inr (some (2, i2)))), some (.inl v2), some (.inr (.inr (some (5, i4)))), some (.inl s.1), some (.inl s.2.1)], [], s.2.2)) (K := fun t => mm_E (d + 1) 134 (69, [some (.inr (.inr (some (9, 0)))), some (.inr (.inr (some (13, 0)))), some (.inr (.inr (some (2, i2)))), some (.inl v2), none, some (.inl t.1), none], [], t.2) (.inl none, r, 0, 0)) hres (fun t hres => ?_) (fun s ol5 hres hcl5 hxl5 => ?_)
      · obtain ⟨v14, m15⟩ := t
        show mm_E (d + 1) 134 (69, [some (.inr (.inr (some (9, 0)))), some (.inr (.inr (some (13, 0)))), some (.inr (.inr (some (2, i2)))), some (.inl v2), none, some (.inl v14), none], [], m15) (.inl none, r, 0, 0)
        refine e_steps 6 (s' := (80, [some (.inr (.inr (some (9, 0)))), some (.inr (.inr (some (13, 0)))), some (.inr (.inr (some (2, i2)))), some (.inl v2), none, some (.inl v14), none], [.inl (mm_max 1 v14), .inl v2, .inr (.inr (some (56, 0)))], m15)) rfl ?_
        refine e_gd (s1 := (81, [some (.inr (.inr (some (9, 0)))), some (.inr (.inr (some (13, 0)))), some (.inr (.inr (some (2, i2)))), some (.inl v2), none, some (.inl v14), none], [], (mm_w m15 56 0 v2.toNatClampNeg (mm_max 1 v14)))) rfl hres (fun hc hres => ?_)
        refine e_let (fun (m16 : mm_M) => (81, [some (.inr (.inr (some (9, 0)))), some (.inr (.inr (some (13, 0)))), some (.inr (.inr (some (2, i2)))), some (.inl v2), none, some (.inl v14), none], [], m16)) hres (fun m16 hres => ?_)
        refine e_steps 1 (s' := (84, [some (.inr (.inr (some (9, 0)))), some (.inr (.inr (some (13, 0)))), some (.inr (.inr (some (2, i2)))), some (.inl (v2 + 1)), none, some (.inl v14), none], [], m16)) rfl ?_
        refine e_let (fun (v17 : Int32) => (84, [some (.inr (.inr (some (9, 0)))), some (.inr (.inr (some (13, 0)))), some (.inr (.inr (some (2, i2)))), some (.inl v17), none, some (.inl v14), none], [], m16)) hres (fun v17 hres => ?_)
        refine e_steps 1 (s' := (2, [some (.inr (.inr (some (9, 0)))), some (.inr (.inr (some (13, 0)))), some (.inr (.inr (some (2, i2)))), some (.inl v17), none, some (.inl v14), none], [], m16)) rfl ?_
        obtain rfl := Option.some.inj hres
        exact e_mask (L' := [some (.inr (.inr (some (9, 0)))), some (.inr (.inr (some (13, 0)))), some (.inr (.inr (some (2, i2)))), some (.inl v17), none, none, none]) rfl (hcl1 _ rfl)
      · obtain ⟨v6, v7, m8⟩ := s
        show mm_E (d + 1) 134 (26, [some (.inr (.inr (some (9, 0)))), some (.inr (.inr (some (13, 0)))), some (.inr (.inr (some (2, i2)))), some (.inl v2), some (.inr (.inr (some (5, i4)))), some (.inl v6), some (.inl v7)], [], m8) (.inl none, r, 0, 0)
        refine e_steps 3 (s' := (33, [some (.inr (.inr (some (9, 0)))), some (.inr (.inr (some (13, 0)))), some (.inr (.inr (some (2, i2)))), some (.inl v2), some (.inr (.inr (some (5, i4)))), some (.inl v6), some (.inl v7)], [.inl (m8 5 i4 4), .inl v7], m8)) rfl ?_
        refine e_if (s1 := (69, [some (.inr (.inr (some (9, 0)))), some (.inr (.inr (some (13, 0)))), some (.inr (.inr (some (2, i2)))), some (.inl v2), some (.inr (.inr (some (5, i4)))), some (.inl v6), some (.inl v7)], [], m8)) (s2 := (36, [some (.inr (.inr (some (9, 0)))), some (.inr (.inr (some (13, 0)))), some (.inr (.inr (some (2, i2)))), some (.inl v2), some (.inr (.inr (some (5, i4)))), some (.inl v6), some (.inl v7)], [], m8)) rfl hres (fun hc hres => ?_) (fun hc hres => ?_)
        · obtain rfl := Option.some.inj hres
          exact e_mask (L' := [some (.inr (.inr (some (9, 0)))), some (.inr (.inr (some (13, 0)))), some (.inr (.inr (some (2, i2)))), some (.inl v2), none, some (.inl v6), none]) rfl (hxl5 _ rfl)
        · refine e_steps 3 (s' := (43, [some (.inr (.inr (some (9, 0)))), some (.inr (.inr (some (13, 0)))), some (.inr (.inr (some (2, i2)))), some (.inl v2), some (.inr (.inr (some (5, i4)))), some (.inl v6), some (.inl v7)], [.inl v7, .inr (.inr (some (37, i4)))], m8)) rfl ?_
          refine e_gd (s1 := (44, [some (.inr (.inr (some (9, 0)))), some (.inr (.inr (some (13, 0)))), some (.inr (.inr (some (2, i2)))), some (.inl v2), some (.inr (.inr (some (5, i4)))), some (.inl v6), some (.inl v7)], [.inl (m8 37 i4 v7.toNatClampNeg)], m8)) rfl hres (fun hc hres => ?_)
          refine e_steps 1 (s' := (45, [some (.inr (.inr (some (9, 0)))), some (.inr (.inr (some (13, 0)))), some (.inr (.inr (some (2, i2)))), some (.inl v2), some (.inr (.inr (some (5, i4)))), some (.inl v6), some (.inl v7)], [.inl 3, .inl (m8 37 i4 v7.toNatClampNeg)], m8)) rfl ?_
          refine e_if (s1 := (63, [some (.inr (.inr (some (9, 0)))), some (.inr (.inr (some (13, 0)))), some (.inr (.inr (some (2, i2)))), some (.inl v2), some (.inr (.inr (some (5, i4)))), some (.inl v6), some (.inl v7)], [], m8)) (s2 := (48, [some (.inr (.inr (some (9, 0)))), some (.inr (.inr (some (13, 0)))), some (.inr (.inr (some (2, i2)))), some (.inl v2), some (.inr (.inr (some (5, i4)))), some (.inl v6), some (.inl v7)], [], m8)) rfl hres (fun hc hres => ?_) (fun hc hres => ?_)
          · refine e_steps 1 (s' := (66, [some (.inr (.inr (some (9, 0)))), some (.inr (.inr (some (13, 0)))), some (.inr (.inr (some (2, i2)))), some (.inl v2), some (.inr (.inr (some (5, i4)))), some (.inl v6), some (.inl (v7 + 1))], [], m8)) rfl ?_
            refine e_let (fun (v9 : Int32) => (66, [some (.inr (.inr (some (9, 0)))), some (.inr (.inr (some (13, 0)))), some (.inr (.inr (some (2, i2)))), some (.inl v2), some (.inr (.inr (some (5, i4)))), some (.inl v6), some (.inl v9)], [], m8)) hres (fun v9 hres => ?_)
            refine e_steps 1 (s' := (26, [some (.inr (.inr (some (9, 0)))), some (.inr (.inr (some (13, 0)))), some (.inr (.inr (some (2, i2)))), some (.inl v2), some (.inr (.inr (some (5, i4)))), some (.inl v6), some (.inl v9)], [], m8)) rfl ?_
            obtain rfl := Option.some.inj hres
            exact e_mask (L' := [some (.inr (.inr (some (9, 0)))), some (.inr (.inr (some (13, 0)))), some (.inr (.inr (some (2, i2)))), some (.inl v2), some (.inr (.inr (some (5, i4)))), some (.inl v6), some (.inl v9)]) rfl (hcl5 _ rfl)
          · refine e_steps 6 (s' := (57, [some (.inr (.inr (some (9, 0)))), some (.inr (.inr (some (13, 0)))), some (.inr (.inr (some (2, i2)))), some (.inl v2), some (.inr (.inr (some (5, i4)))), some (.inl v6), some (.inl v7)], [.inl 0, .inl 0, .inl v7, .inr (.inr (some (5, i4))), .inr (.inr (some (2, i2))), .inl v6], m8)) rfl ?_
            obtain ⟨r10, m11, hv, hres⟩ := mm_b2_some hres
            refine e_call0 (pc := 60) (L := [some (.inr (.inr (some (9, 0)))), some (.inr (.inr (some (13, 0)))), some (.inr (.inr (some (2, i2)))), some (.inl v2), some (.inr (.inr (some (5, i4)))), some (.inl v6), some (.inl v7)]) (st := [.inl v6]) (m' := m11) (v := some (.inl r10)) rfl (k_X3_lossOf d (by omega) i2 i4 v7 0 0 _ _ hv) ?_
            show mm_E (d + 1) 134 (60, [some (.inr (.inr (some (9, 0)))), some (.inr (.inr (some (13, 0)))), some (.inr (.inr (some (2, i2)))), some (.inl v2), some (.inr (.inr (some (5, i4)))), some (.inl v6), some (.inl v7)], [.inl r10, .inl v6], m11) (.inl none, r, 0, 0)
            refine e_steps 2 (s' := (63, [some (.inr (.inr (some (9, 0)))), some (.inr (.inr (some (13, 0)))), some (.inr (.inr (some (2, i2)))), some (.inl v2), some (.inr (.inr (some (5, i4)))), some (.inl (v6 + r10)), some (.inl v7)], [], m11)) rfl ?_
            refine e_let (fun (v12 : Int32) => (63, [some (.inr (.inr (some (9, 0)))), some (.inr (.inr (some (13, 0)))), some (.inr (.inr (some (2, i2)))), some (.inl v2), some (.inr (.inr (some (5, i4)))), some (.inl v12), some (.inl v7)], [], m11)) hres (fun v12 hres => ?_)
            refine e_steps 1 (s' := (66, [some (.inr (.inr (some (9, 0)))), some (.inr (.inr (some (13, 0)))), some (.inr (.inr (some (2, i2)))), some (.inl v2), some (.inr (.inr (some (5, i4)))), some (.inl v12), some (.inl (v7 + 1))], [], m11)) rfl ?_
            refine e_let (fun (v13 : Int32) => (66, [some (.inr (.inr (some (9, 0)))), some (.inr (.inr (some (13, 0)))), some (.inr (.inr (some (2, i2)))), some (.inl v2), some (.inr (.inr (some (5, i4)))), some (.inl v12), some (.inl v13)], [], m11)) hres (fun v13 hres => ?_)
            refine e_steps 1 (s' := (26, [some (.inr (.inr (some (9, 0)))), some (.inr (.inr (some (13, 0)))), some (.inr (.inr (some (2, i2)))), some (.inl v2), some (.inr (.inr (some (5, i4)))), some (.inl v12), some (.inl v13)], [], m11)) rfl ?_
            obtain rfl := Option.some.inj hres
            exact e_mask (L' := [some (.inr (.inr (some (9, 0)))), some (.inr (.inr (some (13, 0)))), some (.inr (.inr (some (2, i2)))), some (.inl v2), some (.inr (.inr (some (5, i4)))), some (.inl v12), some (.inl v13)]) rfl (hcl5 _ rfl)
/-- GlassThreads$Net.otherEnd(II)I -/
def f_X4_otherEnd (a1 : Int32) (a2 : Int32) (m : mm_M) : Option (Int32) :=
if mm_in a1 10 then (
if (m 52 0 a1.toNatClampNeg) ≠ a2 then (if mm_in a1 10 then (
if (m 53 0 a1.toNatClampNeg) ≠ a2 then (some (-1))
else (if mm_in a1 10 then (
some (m 52 0 a1.toNatClampNeg)) else none)) else none)
else (if mm_in a1 10 then (
some (m 53 0 a1.toNatClampNeg)) else none)) else none
set_option maxHeartbeats 4000000 in
set_option maxRecDepth 100000 in
theorem k_X4_otherEnd (d : Nat) (hd : 0 ≤ d) (a1 : Int32) (a2 : Int32) (m : mm_M) (r : Int32) (hres : f_X4_otherEnd a1 a2 m = some r) : mm_X d 138 [.inr (.inr (some (9, 0))), .inl a1, .inl a2] m (.inl (some (.inl r)), m, 0, 0) := by
  unfold f_X4_otherEnd at hres
  show mm_E d 138 (0, [some (.inr (.inr (some (9, 0)))), some (.inl a1), some (.inl a2)], [], m) (.inl (some (.inl r)), m, 0, 0)
  refine e_steps 3 (s' := (5, [some (.inr (.inr (some (9, 0)))), some (.inl a1), some (.inl a2)], [.inl a1, .inr (.inr (some (52, 0)))], m)) rfl ?_
  refine e_gd (s1 := (6, [some (.inr (.inr (some (9, 0)))), some (.inl a1), some (.inl a2)], [.inl (m 52 0 a1.toNatClampNeg)], m)) rfl hres (fun hc hres => ?_)
  refine e_steps 1 (s' := (7, [some (.inr (.inr (some (9, 0)))), some (.inl a1), some (.inl a2)], [.inl a2, .inl (m 52 0 a1.toNatClampNeg)], m)) rfl ?_
  refine e_if (s1 := (17, [some (.inr (.inr (some (9, 0)))), some (.inl a1), some (.inl a2)], [], m)) (s2 := (10, [some (.inr (.inr (some (9, 0)))), some (.inl a1), some (.inl a2)], [], m)) rfl hres (fun hc hres => ?_) (fun hc hres => ?_)
  · refine e_steps 3 (s' := (22, [some (.inr (.inr (some (9, 0)))), some (.inl a1), some (.inl a2)], [.inl a1, .inr (.inr (some (53, 0)))], m)) rfl ?_
    refine e_gd (s1 := (23, [some (.inr (.inr (some (9, 0)))), some (.inl a1), some (.inl a2)], [.inl (m 53 0 a1.toNatClampNeg)], m)) rfl hres (fun hc hres => ?_)
    refine e_steps 1 (s' := (24, [some (.inr (.inr (some (9, 0)))), some (.inl a1), some (.inl a2)], [.inl a2, .inl (m 53 0 a1.toNatClampNeg)], m)) rfl ?_
    refine e_if (s1 := (36, [some (.inr (.inr (some (9, 0)))), some (.inl a1), some (.inl a2)], [], m)) (s2 := (27, [some (.inr (.inr (some (9, 0)))), some (.inl a1), some (.inl a2)], [], m)) rfl hres (fun hc hres => ?_) (fun hc hres => ?_)
    · refine e_steps 1 (s' := (37, [some (.inr (.inr (some (9, 0)))), some (.inl a1), some (.inl a2)], [.inl (-1)], m)) rfl ?_
      refine e_mask (L' := [none, none, none]) rfl ?_
      obtain rfl := Option.some.inj hres
      exact e_ret rfl rfl
    · refine e_steps 3 (s' := (32, [some (.inr (.inr (some (9, 0)))), some (.inl a1), some (.inl a2)], [.inl a1, .inr (.inr (some (52, 0)))], m)) rfl ?_
      refine e_gd (s1 := (33, [some (.inr (.inr (some (9, 0)))), some (.inl a1), some (.inl a2)], [.inl (m 52 0 a1.toNatClampNeg)], m)) rfl hres (fun hc hres => ?_)
      refine e_steps 1 (s' := (37, [some (.inr (.inr (some (9, 0)))), some (.inl a1), some (.inl a2)], [.inl (m 52 0 a1.toNatClampNeg)], m)) rfl ?_
      refine e_mask (L' := [none, none, none]) rfl ?_
      obtain rfl := Option.some.inj hres
      exact e_ret rfl rfl
  · refine e_steps 3 (s' := (15, [some (.inr (.inr (some (9, 0)))), some (.inl a1), some (.inl a2)], [.inl a1, .inr (.inr (some (53, 0)))], m)) rfl ?_
    refine e_gd (s1 := (16, [some (.inr (.inr (some (9, 0)))), some (.inl a1), some (.inl a2)], [.inl (m 53 0 a1.toNatClampNeg)], m)) rfl hres (fun hc hres => ?_)
    obtain rfl := Option.some.inj hres
    exact e_ret rfl rfl
/-- GlassThreads$Net.walkOn(IIII)V -/
def f_X4_walkOn : Nat → Int32 → Int32 → Int32 → Int32 → mm_M → Option (mm_M)
  | 0 => fun _ _ _ _ _ => none
  | n + 1 => fun a1 a2 a3 a4 m =>
if a1 ≠ a2 then ((mm_b1 (mm_loop (σ := Int32 × mm_M) (ρ := (mm_M)) (fun (s : Int32 × mm_M) => match s with
| (v2, m3) => (if (m3 9 0 5) ≤ v2 then (some (.inr m3))
else (if 8 ≤ (m3 10 0 1) then (some (.inr m3))
else (mm_let (fun (w4 : Int32) => (if w4 = (-1) then (mm_let (v2 + 1) fun v6 =>
some (.inl (v6, m3)))
else (if ((a3 >>> (w4 &&& 31)) &&& 1) ≠ 0 then (mm_let (v2 + 1) fun v7 =>
some (.inl (v7, m3)))
else (if mm_in v2 10 then (
mm_b1 (f_X10_add 0 v2 (m3 56 0 v2.toNatClampNeg) m3) fun m9 =>
mm_b1 (f_X4_walkOn n w4 a2 (a3 ||| (1 <<< (w4 &&& 31))) a4 m9) fun m11 =>
if mm_in v2 10 then (
mm_b1 (f_X10_dropLast 0 (m11 56 0 v2.toNatClampNeg) m11) fun m13 =>
mm_let (v2 + 1) fun v14 =>
some (.inl (v14, m13))) else none) else none)) : Option ((Int32 × mm_M) ⊕ ((mm_M))))) fun k5 =>
if ((a4 >>> (v2 &&& 31)) &&& 1) ≠ 1 then (mm_b1 (f_X4_otherEnd v2 a1 m3) fun r15 =>
k5 r15)
else (k5 (-1)))) : Option ((Int32 × mm_M) ⊕ ((mm_M))))) mm_fu (0, m)) fun m16 =>
some m16))
else (mm_let ((mm_b1 (f_X10_takeOver 1 0 m) fun m19 =>
some m19 : Option (mm_M))) fun k17 =>
if (m 10 1 2) = (-1) then (k17)
else (mm_b1 (f_X10_isLessThan 0 1 m) fun r20 =>
if r20 = 0 then (some m)
else (k17)))
set_option maxHeartbeats 4000000 in
set_option maxRecDepth 100000 in
theorem k_X4_walkOn (n : Nat) : ∀ (d : Nat) (hd : 0 + 1 * n ≤ d) (a1 : Int32) (a2 : Int32) (a3 : Int32) (a4 : Int32) (m : mm_M) (r : mm_M) (hres : f_X4_walkOn n a1 a2 a3 a4 m = some r), mm_X d 137 [.inr (.inr (some (9, 0))), .inl a1, .inl a2, .inl a3, .inl a4] m (.inl none, r, 0, 0) := by
  induction n with
  | zero => intro d hd a1 a2 a3 a4 m r hres; cases hres
  | succ n ih =>
    intro d hd a1 a2 a3 a4 m r hres
    have hRF : ∀ (a1 : Int32) (a2 : Int32) (a3 : Int32) (a4 : Int32) (m : mm_M) (r : mm_M), f_X4_walkOn n a1 a2 a3 a4 m = some r → ∀ d, (0 + 1 * n) ≤ d → mm_X d 137 [.inr (.inr (some (9, 0))), .inl a1, .inl a2, .inl a3, .inl a4] m (.inl none, r, 0, 0) := fun a1 a2 a3 a4 m r h d hd => ih d hd a1 a2 a3 a4 m r h
    obtain ⟨d, rfl⟩ : ∃ e, d = e + 1 := ⟨d - 1, by omega⟩
    show mm_E (d + 1) 137 (0, [some (.inr (.inr (some (9, 0)))), some (.inl a1), some (.inl a2), some (.inl a3), some (.inl a4), none, none], [], m) (.inl none, r, 0, 0)
    refine e_steps 2 (s' := (2, [some (.inr (.inr (some (9, 0)))), some (.inl a1), some (.inl a2), some (.inl a3), some (.inl a4), none, none], [.inl a2, .inl a1], m)) rfl ?_
    refine e_if (s1 := (42, [some (.inr (.inr (some (9, 0)))), some (.inl a1), some (.inl a2), some (.inl a3), some (.inl a4), none, none], [], m)) (s2 := (5, [some (.inr (.inr (some (9, 0)))), some (.inl a1), some (.inl a2), some (.inl a3), some (.inl a4), none, none], [], m)) rfl hres (fun hc hres => ?_) (fun hc hres => ?_)
    · refine e_steps 2 (s' := (45, [some (.inr (.inr (some (9, 0)))), some (.inl a1), some (.inl a2), some (.inl a3), some (.inl a4), some (.inl 0), none], [], m)) rfl ?_
      refine e_mask (L' := [some (.inr (.inr (some (9, 0)))), some (.inl a1), some (.inl a2), some (.inl a3), some (.inl a4), some (.inl 0), none]) rfl ?_
      refine e_loopb (φ := fun s => (45, [some (.inr (.inr (some (9, 0)))), some (.inl a1), some (.inl a2), some (.inl a3), some (.inl a4), some (.inl s.1), none], [], s.2)) (K := fun t => mm_E (d + 1) 137 (156, [none, none, none, none, none, none, none], [], t) (.inl none, r, 0, 0)) hres (fun m16 hres => ?_) (fun s ol1 hres hcl1 hxl1 => ?_)
      · show mm_E (d + 1) 137 (156, [none, none, none, none, none, none, none], [], m16) (.inl none, r, 0, 0)
        obtain rfl := Option.some.inj hres
        exact e_ret rfl rfl
      · obtain ⟨v2, m3⟩ := s
        show mm_E (d + 1) 137 (45, [some (.inr (.inr (some (9, 0)))), some (.inl a1), some (.inl a2), some (.inl a3), some (.inl a4), some (.inl v2), none], [], m3) (.inl none, r, 0, 0)
        refine e_steps 3 (s' := (51, [some (.inr (.inr (some (9, 0)))), some (.inl a1), some (.inl a2), some (.inl a3), some (.inl a4), some (.inl v2), none], [.inl (m3 9 0 5), .inl v2], m3)) rfl ?_
        refine e_if (s1 := (156, [some (.inr (.inr (some (9, 0)))), some (.inl a1), some (.inl a2), some (.inl a3), some (.inl a4), some (.inl v2), none], [], m3)) (s2 := (54, [some (.inr (.inr (some (9, 0)))), some (.inl a1), some (.inl a2), some (.inl a3), some (.inl a4), some (.inl v2), none], [], m3)) rfl hres (fun hc hres => ?_) (fun hc hres => ?_)
        · obtain rfl := Option.some.inj hres
          exact e_mask (L' := [none, none, none, none, none, none, none]) rfl (hxl1 _ rfl)
        · refine e_steps 4 (s' := (63, [some (.inr (.inr (some (9, 0)))), some (.inl a1), some (.inl a2), some (.inl a3), some (.inl a4), some (.inl v2), none], [.inl 8, .inl (m3 10 0 1)], m3)) rfl ?_
          refine e_if (s1 := (156, [some (.inr (.inr (some (9, 0)))), some (.inl a1), some (.inl a2), some (.inl a3), some (.inl a4), some (.inl v2), none], [], m3)) (s2 := (66, [some (.inr (.inr (some (9, 0)))), some (.inl a1), some (.inl a2), some (.inl a3), some (.inl a4), some (.inl v2), none], [], m3)) rfl hres (fun hc hres => ?_) (fun hc hres => ?_)
          · obtain rfl := Option.some.inj hres
            exact e_mask (L' := [none, none, none, none, none, none, none]) rfl (hxl1 _ rfl)
          · refine e_steps 6 (s' := (74, [some (.inr (.inr (some (9, 0)))), some (.inl a1), some (.inl a2), some (.inl a3), some (.inl a4), some (.inl v2), none], [.inl 1, .inl ((a4 >>> (v2 &&& 31)) &&& 1)], m3)) rfl ?_
            refine e_join (fun k5 => ∀ (w4 : Int32), k5 w4 = some ol1 → mm_E (d + 1) 137 (88, [some (.inr (.inr (some (9, 0)))), some (.inl a1), some (.inl a2), some (.inl a3), some (.inl a4), some (.inl v2), none], [.inl w4], m3) (.inl none, r, 0, 0)) hres (fun w4 hres => ?_) (fun k5 hk5 hres => ?_)
            · refine e_steps 3 (s' := (93, [some (.inr (.inr (some (9, 0)))), some (.inl a1), some (.inl a2), some (.inl a3), some (.inl a4), some (.inl v2), some (.inl w4)], [.inl (-1), .inl w4], m3)) rfl ?_
              refine e_if (s1 := (150, [some (.inr (.inr (some (9, 0)))), some (.inl a1), some (.inl a2), some (.inl a3), some (.inl a4), some (.inl v2), some (.inl w4)], [], m3)) (s2 := (96, [some (.inr (.inr (some (9, 0)))), some (.inl a1), some (.inl a2), some (.inl a3), some (.inl a4), some (.inl v2), some (.inl w4)], [], m3)) rfl hres (fun hc hres => ?_) (fun hc hres => ?_)
              · refine e_mask (L' := [some (.inr (.inr (some (9, 0)))), some (.inl a1), some (.inl a2), some (.inl a3), some (.inl a4), some (.inl v2), none]) rfl ?_
                refine e_steps 1 (s' := (153, [some (.inr (.inr (some (9, 0)))), some (.inl a1), some (.inl a2), some (.inl a3), some (.inl a4), some (.inl (v2 + 1)), none], [], m3)) rfl ?_
                refine e_let (fun (v6 : Int32) => (153, [some (.inr (.inr (some (9, 0)))), some (.inl a1), some (.inl a2), some (.inl a3), some (.inl a4), some (.inl v6), none], [], m3)) hres (fun v6 hres => ?_)
                refine e_steps 1 (s' := (45, [some (.inr (.inr (some (9, 0)))), some (.inl a1), some (.inl a2), some (.inl a3), some (.inl a4), some (.inl v6), none], [], m3)) rfl ?_
                obtain rfl := Option.some.inj hres
                exact e_mask (L' := [some (.inr (.inr (some (9, 0)))), some (.inl a1), some (.inl a2), some (.inl a3), some (.inl a4), some (.inl v6), none]) rfl (hcl1 _ rfl)
              · refine e_steps 5 (s' := (102, [some (.inr (.inr (some (9, 0)))), some (.inl a1), some (.inl a2), some (.inl a3), some (.inl a4), some (.inl v2), some (.inl w4)], [.inl ((a3 >>> (w4 &&& 31)) &&& 1)], m3)) rfl ?_
                refine e_if (s1 := (150, [some (.inr (.inr (some (9, 0)))), some (.inl a1), some (.inl a2), some (.inl a3), some (.inl a4), some (.inl v2), some (.inl w4)], [], m3)) (s2 := (105, [some (.inr (.inr (some (9, 0)))), some (.inl a1), some (.inl a2), some (.inl a3), some (.inl a4), some (.inl v2), some (.inl w4)], [], m3)) rfl hres (fun hc hres => ?_) (fun hc hres => ?_)
                · refine e_mask (L' := [some (.inr (.inr (some (9, 0)))), some (.inl a1), some (.inl a2), some (.inl a3), some (.inl a4), some (.inl v2), none]) rfl ?_
                  refine e_steps 1 (s' := (153, [some (.inr (.inr (some (9, 0)))), some (.inl a1), some (.inl a2), some (.inl a3), some (.inl a4), some (.inl (v2 + 1)), none], [], m3)) rfl ?_
                  refine e_let (fun (v7 : Int32) => (153, [some (.inr (.inr (some (9, 0)))), some (.inl a1), some (.inl a2), some (.inl a3), some (.inl a4), some (.inl v7), none], [], m3)) hres (fun v7 hres => ?_)
                  refine e_steps 1 (s' := (45, [some (.inr (.inr (some (9, 0)))), some (.inl a1), some (.inl a2), some (.inl a3), some (.inl a4), some (.inl v7), none], [], m3)) rfl ?_
                  obtain rfl := Option.some.inj hres
                  exact e_mask (L' := [some (.inr (.inr (some (9, 0)))), some (.inl a1), some (.inl a2), some (.inl a3), some (.inl a4), some (.inl v7), none]) rfl (hcl1 _ rfl)
                · refine e_steps 6 (s' := (117, [some (.inr (.inr (some (9, 0)))), some (.inl a1), some (.inl a2), some (.inl a3), some (.inl a4), some (.inl v2), some (.inl w4)], [.inl v2, .inr (.inr (some (56, 0))), .inl v2, .inr (.inr (some (10, 0)))], m3)) rfl ?_
                  refine e_gd (s1 := (118, [some (.inr (.inr (some (9, 0)))), some (.inl a1), some (.inl a2), some (.inl a3), some (.inl a4), some (.inl v2), some (.inl w4)], [.inl (m3 56 0 v2.toNatClampNeg), .inl v2, .inr (.inr (some (10, 0)))], m3)) rfl hres (fun hc hres => ?_)
                  obtain ⟨m9, hv, hres⟩ := mm_b1_some hres
                  refine e_call0 (pc := 121) (L := [some (.inr (.inr (some (9, 0)))), some (.inl a1), some (.inl a2), some (.inl a3), some (.inl a4), some (.inl v2), some (.inl w4)]) (st := []) (m' := m9) (v := none) rfl (k_X10_add d (by omega) 0 v2 (m3 56 0 v2.toNatClampNeg) _ _ hv) ?_
                  show mm_E (d + 1) 137 (121, [some (.inr (.inr (some (9, 0)))), some (.inl a1), some (.inl a2), some (.inl a3), some (.inl a4), some (.inl v2), some (.inl w4)], [], m9) (.inl none, r, 0, 0)
                  refine e_steps 9 (s' := (133, [some (.inr (.inr (some (9, 0)))), some (.inl a1), some (.inl a2), some (.inl a3), some (.inl a4), some (.inl v2), some (.inl w4)], [.inl a4, .inl (a3 ||| (1 <<< (w4 &&& 31))), .inl a2, .inl w4, .inr (.inr (some (9, 0)))], m9)) rfl ?_
                  obtain ⟨m11, hv, hres⟩ := mm_b1_some hres
                  refine e_call0 (pc := 136) (L := [some (.inr (.inr (some (9, 0)))), some (.inl a1), some (.inl a2), some (.inl a3), some (.inl a4), some (.inl v2), some (.inl w4)]) (st := []) (m' := m11) (v := none) rfl (hRF w4 a2 (a3 ||| (1 <<< (w4 &&& 31))) a4 _ _ hv d (by omega)) ?_
                  show mm_E (d + 1) 137 (136, [some (.inr (.inr (some (9, 0)))), some (.inl a1), some (.inl a2), some (.inl a3), some (.inl a4), some (.inl v2), some (.inl w4)], [], m11) (.inl none, r, 0, 0)
                  refine e_steps 5 (s' := (146, [some (.inr (.inr (some (9, 0)))), some (.inl a1), some (.inl a2), some (.inl a3), some (.inl a4), some (.inl v2), some (.inl w4)], [.inl v2, .inr (.inr (some (56, 0))), .inr (.inr (some (10, 0)))], m11)) rfl ?_
                  refine e_gd (s1 := (147, [some (.inr (.inr (some (9, 0)))), some (.inl a1), some (.inl a2), some (.inl a3), some (.inl a4), some (.inl v2), some (.inl w4)], [.inl (m11 56 0 v2.toNatClampNeg), .inr (.inr (some (10, 0)))], m11)) rfl hres (fun hc hres => ?_)
                  obtain ⟨m13, hv, hres⟩ := mm_b1_some hres
                  refine e_call0 (pc := 150) (L := [some (.inr (.inr (some (9, 0)))), some (.inl a1), some (.inl a2), some (.inl a3), some (.inl a4), some (.inl v2), some (.inl w4)]) (st := []) (m' := m13) (v := none) rfl (k_X10_dropLast d (by omega) 0 (m11 56 0 v2.toNatClampNeg) _ _ hv) ?_
                  show mm_E (d + 1) 137 (150, [some (.inr (.inr (some (9, 0)))), some (.inl a1), some (.inl a2), some (.inl a3), some (.inl a4), some (.inl v2), some (.inl w4)], [], m13) (.inl none, r, 0, 0)
                  refine e_mask (L' := [some (.inr (.inr (some (9, 0)))), some (.inl a1), some (.inl a2), some (.inl a3), some (.inl a4), some (.inl v2), none]) rfl ?_
                  refine e_steps 1 (s' := (153, [some (.inr (.inr (some (9, 0)))), some (.inl a1), some (.inl a2), some (.inl a3), some (.inl a4), some (.inl (v2 + 1)), none], [], m13)) rfl ?_
                  refine e_let (fun (v14 : Int32) => (153, [some (.inr (.inr (some (9, 0)))), some (.inl a1), some (.inl a2), some (.inl a3), some (.inl a4), some (.inl v14), none], [], m13)) hres (fun v14 hres => ?_)
                  refine e_steps 1 (s' := (45, [some (.inr (.inr (some (9, 0)))), some (.inl a1), some (.inl a2), some (.inl a3), some (.inl a4), some (.inl v14), none], [], m13)) rfl ?_
                  obtain rfl := Option.some.inj hres
                  exact e_mask (L' := [some (.inr (.inr (some (9, 0)))), some (.inl a1), some (.inl a2), some (.inl a3), some (.inl a4), some (.inl v14), none]) rfl (hcl1 _ rfl)
            · refine e_if (s1 := (81, [some (.inr (.inr (some (9, 0)))), some (.inl a1), some (.inl a2), some (.inl a3), some (.inl a4), some (.inl v2), none], [], m3)) (s2 := (77, [some (.inr (.inr (some (9, 0)))), some (.inl a1), some (.inl a2), some (.inl a3), some (.inl a4), some (.inl v2), none], [], m3)) rfl hres (fun hc hres => ?_) (fun hc hres => ?_)
              · refine e_steps 3 (s' := (85, [some (.inr (.inr (some (9, 0)))), some (.inl a1), some (.inl a2), some (.inl a3), some (.inl a4), some (.inl v2), none], [.inl a1, .inl v2, .inr (.inr (some (9, 0)))], m3)) rfl ?_
                obtain ⟨r15, hv, hres⟩ := mm_b1_some hres
                refine e_call0 (pc := 88) (L := [some (.inr (.inr (some (9, 0)))), some (.inl a1), some (.inl a2), some (.inl a3), some (.inl a4), some (.inl v2), none]) (st := []) (m' := m3) (v := some (.inl r15)) rfl (k_X4_otherEnd d (by omega) v2 a1 _ _ hv) ?_
                show mm_E (d + 1) 137 (88, [some (.inr (.inr (some (9, 0)))), some (.inl a1), some (.inl a2), some (.inl a3), some (.inl a4), some (.inl v2), none], [.inl r15], m3) (.inl none, r, 0, 0)
                exact e_mask (L' := [some (.inr (.inr (some (9, 0)))), some (.inl a1), some (.inl a2), some (.inl a3), some (.inl a4), some (.inl v2), none]) rfl (hk5 _ hres)
              · refine e_steps 2 (s' := (88, [some (.inr (.inr (some (9, 0)))), some (.inl a1), some (.inl a2), some (.inl a3), some (.inl a4), some (.inl v2), none], [.inl (-1)], m3)) rfl ?_
                exact e_mask (L' := [some (.inr (.inr (some (9, 0)))), some (.inl a1), some (.inl a2), some (.inl a3), some (.inl a4), some (.inl v2), none]) rfl (hk5 _ hres)
    · refine e_steps 4 (s' := (13, [some (.inr (.inr (some (9, 0)))), some (.inl a1), some (.inl a2), some (.inl a3), some (.inl a4), none, none], [.inl (-1), .inl (m 10 1 2)], m)) rfl ?_
      refine e_join (fun k17 => k17 = some r → mm_E (d + 1) 137 (30, [some (.inr (.inr (some (9, 0)))), none, none, none, none, none, none], [], m) (.inl none, r, 0, 0)) hres (fun  hres => ?_) (fun k17 hk17 hres => ?_)
      · refine e_steps 4 (s' := (38, [some (.inr (.inr (some (9, 0)))), none, none, none, none, none, none], [.inr (.inr (some (10, 0))), .inr (.inr (some (10, 1)))], m)) rfl ?_
        obtain ⟨m19, hv, hres⟩ := mm_b1_some hres
        refine e_call0 (pc := 41) (L := [some (.inr (.inr (some (9, 0)))), none, none, none, none, none, none]) (st := []) (m' := m19) (v := none) rfl (k_X10_takeOver d (by omega) 1 0 _ _ hv) ?_
        show mm_E (d + 1) 137 (41, [some (.inr (.inr (some (9, 0)))), none, none, none, none, none, none], [], m19) (.inl none, r, 0, 0)
        refine e_mask (L' := [none, none, none, none, none, none, none]) rfl ?_
        obtain rfl := Option.some.inj hres
        exact e_ret rfl rfl
      · refine e_if (s1 := (30, [some (.inr (.inr (some (9, 0)))), some (.inl a1), some (.inl a2), some (.inl a3), some (.inl a4), none, none], [], m)) (s2 := (16, [some (.inr (.inr (some (9, 0)))), some (.inl a1), some (.inl a2), some (.inl a3), some (.inl a4), none, none], [], m)) rfl hres (fun hc hres => ?_) (fun hc hres => ?_)
        · exact e_mask (L' := [some (.inr (.inr (some (9, 0)))), none, none, none, none, none, none]) rfl (hk17  hres)
        · refine e_steps 4 (s' := (24, [some (.inr (.inr (some (9, 0)))), some (.inl a1), some (.inl a2), some (.inl a3), some (.inl a4), none, none], [.inr (.inr (some (10, 1))), .inr (.inr (some (10, 0)))], m)) rfl ?_
          obtain ⟨r20, hv, hres⟩ := mm_b1_some hres
          refine e_call0 (pc := 27) (L := [some (.inr (.inr (some (9, 0)))), some (.inl a1), some (.inl a2), some (.inl a3), some (.inl a4), none, none]) (st := []) (m' := m) (v := some (.inl r20)) rfl (k_X10_isLessThan d (by omega) 0 1 _ _ hv) ?_
          show mm_E (d + 1) 137 (27, [some (.inr (.inr (some (9, 0)))), some (.inl a1), some (.inl a2), some (.inl a3), some (.inl a4), none, none], [.inl r20], m) (.inl none, r, 0, 0)
          refine e_if (s1 := (41, [some (.inr (.inr (some (9, 0)))), some (.inl a1), some (.inl a2), some (.inl a3), some (.inl a4), none, none], [], m)) (s2 := (30, [some (.inr (.inr (some (9, 0)))), some (.inl a1), some (.inl a2), some (.inl a3), some (.inl a4), none, none], [], m)) rfl hres (fun hc hres => ?_) (fun hc hres => ?_)
          · refine e_mask (L' := [none, none, none, none, none, none, none]) rfl ?_
            obtain rfl := Option.some.inj hres
            exact e_ret rfl rfl
          · exact e_mask (L' := [some (.inr (.inr (some (9, 0)))), none, none, none, none, none, none]) rfl (hk17  hres)
/-- GlassThreads$Net.findLeast(III)Z -/
def f_X4_findLeast (a1 : Int32) (a2 : Int32) (a3 : Int32) (m : mm_M) : Option (Int32 × mm_M) :=
mm_b1 (f_X10_clear 0 m) fun m2 =>
mm_let (mm_w m2 10 1 2 (-1)) fun m3 =>
mm_b1 (f_X4_walkOn 16 a1 a2 (1 <<< (a1 &&& 31)) a3 m3) fun m5 =>
if (m5 10 1 2) = (-1) then (some (0, m5))
else (some (1, m5))
set_option maxHeartbeats 4000000 in
set_option maxRecDepth 100000 in
theorem k_X4_findLeast (d : Nat) (hd : 17 ≤ d) (a1 : Int32) (a2 : Int32) (a3 : Int32) (m : mm_M) (r : Int32 × mm_M) (hres : f_X4_findLeast a1 a2 a3 m = some r) : mm_X d 136 [.inr (.inr (some (9, 0))), .inl a1, .inl a2, .inl a3] m (.inl (some (.inl r.1)), r.2, 0, 0) := by
  unfold f_X4_findLeast at hres
  obtain ⟨d, rfl⟩ : ∃ e, d = e + 1 := ⟨d - 1, by omega⟩
  show mm_E (d + 1) 136 (0, [some (.inr (.inr (some (9, 0)))), some (.inl a1), some (.inl a2), some (.inl a3)], [], m) (.inl (some (.inl r.1)), r.2, 0, 0)
  refine e_steps 2 (s' := (4, [some (.inr (.inr (some (9, 0)))), some (.inl a1), some (.inl a2), some (.inl a3)], [.inr (.inr (some (10, 0)))], m)) rfl ?_
  obtain ⟨m2, hv, hres⟩ := mm_b1_some hres
  refine e_call0 (pc := 7) (L := [some (.inr (.inr (some (9, 0)))), some (.inl a1), some (.inl a2), some (.inl a3)]) (st := []) (m' := m2) (v := none) rfl (k_X10_clear d (by omega) 0 _ _ hv) ?_
  show mm_E (d + 1) 136 (7, [some (.inr (.inr (some (9, 0)))), some (.inl a1), some (.inl a2), some (.inl a3)], [], m2) (.inl (some (.inl r.1)), r.2, 0, 0)
  refine e_steps 4 (s' := (15, [some (.inr (.inr (some (9, 0)))), some (.inl a1), some (.inl a2), some (.inl a3)], [], (mm_w m2 10 1 2 (-1)))) rfl ?_
  refine e_let (fun (m3 : mm_M) => (15, [some (.inr (.inr (some (9, 0)))), some (.inl a1), some (.inl a2), some (.inl a3)], [], m3)) hres (fun m3 hres => ?_)
  refine e_steps 7 (s' := (22, [some (.inr (.inr (some (9, 0)))), some (.inl a1), some (.inl a2), some (.inl a3)], [.inl a3, .inl (1 <<< (a1 &&& 31)), .inl a2, .inl a1, .inr (.inr (some (9, 0)))], m3)) rfl ?_
  obtain ⟨m5, hv, hres⟩ := mm_b1_some hres
  refine e_call0 (pc := 25) (L := [some (.inr (.inr (some (9, 0)))), some (.inl a1), some (.inl a2), some (.inl a3)]) (st := []) (m' := m5) (v := none) rfl (k_X4_walkOn 16 d (by omega) a1 a2 (1 <<< (a1 &&& 31)) a3 _ _ hv) ?_
  show mm_E (d + 1) 136 (25, [some (.inr (.inr (some (9, 0)))), some (.inl a1), some (.inl a2), some (.inl a3)], [], m5) (.inl (some (.inl r.1)), r.2, 0, 0)
  refine e_steps 4 (s' := (33, [some (.inr (.inr (some (9, 0)))), some (.inl a1), some (.inl a2), some (.inl a3)], [.inl (-1), .inl (m5 10 1 2)], m5)) rfl ?_
  refine e_if (s1 := (40, [some (.inr (.inr (some (9, 0)))), some (.inl a1), some (.inl a2), some (.inl a3)], [], m5)) (s2 := (36, [some (.inr (.inr (some (9, 0)))), some (.inl a1), some (.inl a2), some (.inl a3)], [], m5)) rfl hres (fun hc hres => ?_) (fun hc hres => ?_)
  · refine e_steps 1 (s' := (41, [some (.inr (.inr (some (9, 0)))), some (.inl a1), some (.inl a2), some (.inl a3)], [.inl 0], m5)) rfl ?_
    refine e_mask (L' := [none, none, none, none]) rfl ?_
    obtain rfl := Option.some.inj hres
    exact e_ret rfl rfl
  · refine e_steps 2 (s' := (41, [some (.inr (.inr (some (9, 0)))), some (.inl a1), some (.inl a2), some (.inl a3)], [.inl 1], m5)) rfl ?_
    refine e_mask (L' := [none, none, none, none]) rfl ?_
    obtain rfl := Option.some.inj hres
    exact e_ret rfl rfl
/-- GlassThreads$Net.keepLeast(II)I -/
def f_X4_keepLeast (a1 : Int32) (a2 : Int32) (m : mm_M) : Option (Int32 × mm_M) :=
mm_b2 (f_X4_findLeast a1 a2 0 m) fun r1 m2 =>
if r1 ≠ 0 then (mm_b1 (f_X10_takeOver 3 1 m2) fun m4 =>
mm_b1 (f_X10_clear 4 m4) fun m6 =>
some ((m6 10 3 2), m6))
else (some ((-1), m2))
set_option maxHeartbeats 4000000 in
set_option maxRecDepth 100000 in
theorem k_X4_keepLeast (d : Nat) (hd : 18 ≤ d) (a1 : Int32) (a2 : Int32) (m : mm_M) (r : Int32 × mm_M) (hres : f_X4_keepLeast a1 a2 m = some r) : mm_X d 135 [.inr (.inr (some (9, 0))), .inl a1, .inl a2] m (.inl (some (.inl r.1)), r.2, 0, 0) := by
  unfold f_X4_keepLeast at hres
  obtain ⟨d, rfl⟩ : ∃ e, d = e + 1 := ⟨d - 1, by omega⟩
  show mm_E (d + 1) 135 (0, [some (.inr (.inr (some (9, 0)))), some (.inl a1), some (.inl a2)], [], m) (.inl (some (.inl r.1)), r.2, 0, 0)
  refine e_steps 4 (s' := (4, [some (.inr (.inr (some (9, 0)))), some (.inl a1), some (.inl a2)], [.inl 0, .inl a2, .inl a1, .inr (.inr (some (9, 0)))], m)) rfl ?_
  obtain ⟨r1, m2, hv, hres⟩ := mm_b2_some hres
  refine e_call0 (pc := 7) (L := [some (.inr (.inr (some (9, 0)))), some (.inl a1), some (.inl a2)]) (st := []) (m' := m2) (v := some (.inl r1)) rfl (k_X4_findLeast d (by omega) a1 a2 0 _ _ hv) ?_
  show mm_E (d + 1) 135 (7, [some (.inr (.inr (some (9, 0)))), some (.inl a1), some (.inl a2)], [.inl r1], m2) (.inl (some (.inl r.1)), r.2, 0, 0)
  refine e_if (s1 := (12, [some (.inr (.inr (some (9, 0)))), some (.inl a1), some (.inl a2)], [], m2)) (s2 := (10, [some (.inr (.inr (some (9, 0)))), some (.inl a1), some (.inl a2)], [], m2)) rfl hres (fun hc hres => ?_) (fun hc hres => ?_)
  · refine e_steps 4 (s' := (20, [some (.inr (.inr (some (9, 0)))), some (.inl a1), some (.inl a2)], [.inr (.inr (some (10, 1))), .inr (.inr (some (10, 3)))], m2)) rfl ?_
    obtain ⟨m4, hv, hres⟩ := mm_b1_some hres
    refine e_call0 (pc := 23) (L := [some (.inr (.inr (some (9, 0)))), some (.inl a1), some (.inl a2)]) (st := []) (m' := m4) (v := none) rfl (k_X10_takeOver d (by omega) 3 1 _ _ hv) ?_
    show mm_E (d + 1) 135 (23, [some (.inr (.inr (some (9, 0)))), some (.inl a1), some (.inl a2)], [], m4) (.inl (some (.inl r.1)), r.2, 0, 0)
    refine e_steps 2 (s' := (27, [some (.inr (.inr (some (9, 0)))), some (.inl a1), some (.inl a2)], [.inr (.inr (some (10, 4)))], m4)) rfl ?_
    obtain ⟨m6, hv, hres⟩ := mm_b1_some hres
    refine e_call0 (pc := 30) (L := [some (.inr (.inr (some (9, 0)))), some (.inl a1), some (.inl a2)]) (st := []) (m' := m6) (v := none) rfl (k_X10_clear d (by omega) 4 _ _ hv) ?_
    show mm_E (d + 1) 135 (30, [some (.inr (.inr (some (9, 0)))), some (.inl a1), some (.inl a2)], [], m6) (.inl (some (.inl r.1)), r.2, 0, 0)
    refine e_steps 3 (s' := (37, [some (.inr (.inr (some (9, 0)))), some (.inl a1), some (.inl a2)], [.inl (m6 10 3 2)], m6)) rfl ?_
    obtain rfl := Option.some.inj hres
    exact e_ret rfl rfl
  · refine e_steps 1 (s' := (11, [some (.inr (.inr (some (9, 0)))), some (.inl a1), some (.inl a2)], [.inl (-1)], m2)) rfl ?_
    obtain rfl := Option.some.inj hres
    exact e_ret rfl rfl
/-- GlassThreads$Net.isBetterPair()Z -/
def f_X4_isBetterPair  (m : mm_M) : Option (Int32) :=
mm_let ((m 10 2 2) + (m 10 1 2)) fun v1 =>
mm_let ((if (m 9 0 14) = (-1) then (some 1)
else (if (m 9 0 14) ≤ v1 then (some 0)
else (some 1)) : Option (Int32))) fun k2 =>
if (m 9 0 14) = (-1) then (k2)
else (if v1 = (m 9 0 14) then (mm_b1 (f_X10_isLessThan 2 3 m) fun r3 =>
if r3 = 0 ∨ r3 = 1 then some r3 else none)
else (k2))
set_option maxHeartbeats 4000000 in
set_option maxRecDepth 100000 in
theorem k_X4_isBetterPair (d : Nat) (hd : 1 ≤ d)  (m : mm_M) (r : Int32) (hres : f_X4_isBetterPair  m = some r) : mm_X d 141 [.inr (.inr (some (9, 0)))] m (.inl (some (.inl r)), m, 0, 0) := by
  unfold f_X4_isBetterPair at hres
  obtain ⟨d, rfl⟩ : ∃ e, d = e + 1 := ⟨d - 1, by omega⟩
  show mm_E (d + 1) 141 (0, [some (.inr (.inr (some (9, 0)))), none], [], m) (.inl (some (.inl r)), m, 0, 0)
  refine e_steps 8 (s' := (16, [some (.inr (.inr (some (9, 0)))), some (.inl ((m 10 2 2) + (m 10 1 2)))], [], m)) rfl ?_
  refine e_let (fun (v1 : Int32) => (16, [some (.inr (.inr (some (9, 0)))), some (.inl v1)], [], m)) hres (fun v1 hres => ?_)
  refine e_steps 3 (s' := (21, [some (.inr (.inr (some (9, 0)))), some (.inl v1)], [.inl (-1), .inl (m 9 0 14)], m)) rfl ?_
  refine e_join (fun k2 => k2 = some r → mm_E (d + 1) 141 (32, [some (.inr (.inr (some (9, 0)))), some (.inl v1)], [], m) (.inl (some (.inl r)), m, 0, 0)) hres (fun  hres => ?_) (fun k2 hk2 hres => ?_)
  · refine e_steps 3 (s' := (37, [some (.inr (.inr (some (9, 0)))), some (.inl v1)], [.inl (-1), .inl (m 9 0 14)], m)) rfl ?_
    refine e_if (s1 := (48, [some (.inr (.inr (some (9, 0)))), some (.inl v1)], [], m)) (s2 := (40, [some (.inr (.inr (some (9, 0)))), some (.inl v1)], [], m)) rfl hres (fun hc hres => ?_) (fun hc hres => ?_)
    · refine e_mask (L' := [none, none]) rfl ?_
      refine e_steps 2 (s' := (53, [none, none], [.inl 1], m)) rfl ?_
      obtain rfl := Option.some.inj hres
      exact e_ret rfl rfl
    · refine e_steps 3 (s' := (45, [some (.inr (.inr (some (9, 0)))), some (.inl v1)], [.inl (m 9 0 14), .inl v1], m)) rfl ?_
      refine e_if (s1 := (52, [some (.inr (.inr (some (9, 0)))), some (.inl v1)], [], m)) (s2 := (48, [some (.inr (.inr (some (9, 0)))), some (.inl v1)], [], m)) rfl hres (fun hc hres => ?_) (fun hc hres => ?_)
      · refine e_steps 1 (s' := (53, [some (.inr (.inr (some (9, 0)))), some (.inl v1)], [.inl 0], m)) rfl ?_
        refine e_mask (L' := [none, none]) rfl ?_
        obtain rfl := Option.some.inj hres
        exact e_ret rfl rfl
      · refine e_mask (L' := [none, none]) rfl ?_
        refine e_steps 2 (s' := (53, [none, none], [.inl 1], m)) rfl ?_
        obtain rfl := Option.some.inj hres
        exact e_ret rfl rfl
  · refine e_if (s1 := (32, [some (.inr (.inr (some (9, 0)))), some (.inl v1)], [], m)) (s2 := (24, [some (.inr (.inr (some (9, 0)))), some (.inl v1)], [], m)) rfl hres (fun hc hres => ?_) (fun hc hres => ?_)
    · exact e_mask (L' := [some (.inr (.inr (some (9, 0)))), some (.inl v1)]) rfl (hk2  hres)
    · refine e_steps 3 (s' := (29, [some (.inr (.inr (some (9, 0)))), some (.inl v1)], [.inl (m 9 0 14), .inl v1], m)) rfl ?_
      refine e_if (s1 := (54, [some (.inr (.inr (some (9, 0)))), some (.inl v1)], [], m)) (s2 := (32, [some (.inr (.inr (some (9, 0)))), some (.inl v1)], [], m)) rfl hres (fun hc hres => ?_) (fun hc hres => ?_)
      · refine e_steps 4 (s' := (62, [some (.inr (.inr (some (9, 0)))), some (.inl v1)], [.inr (.inr (some (10, 3))), .inr (.inr (some (10, 2)))], m)) rfl ?_
        obtain ⟨r3, hv, hres⟩ := mm_b1_some hres
        refine e_call0 (pc := 65) (L := [some (.inr (.inr (some (9, 0)))), some (.inl v1)]) (st := []) (m' := m) (v := some (.inl r3)) rfl (k_X10_isLessThan d (by omega) 2 3 _ _ hv) ?_
        show mm_E (d + 1) 141 (65, [some (.inr (.inr (some (9, 0)))), some (.inl v1)], [.inl r3], m) (.inl (some (.inl r)), m, 0, 0)
        refine e_gr (o := .inl (some (.inl r3))) rfl hres (fun hc hres => ?_)
        obtain rfl := Option.some.inj hres
        rfl
      · exact e_mask (L' := [some (.inr (.inr (some (9, 0)))), some (.inl v1)]) rfl (hk2  hres)
/-- GlassThreads$Net.leadOn(IIII)V -/
def f_X4_leadOn : Nat → Int32 → Int32 → Int32 → Int32 → mm_M → Option (mm_M)
  | 0 => fun _ _ _ _ _ => none
  | n + 1 => fun a1 a2 a3 a4 m =>
if a1 ≠ a3 then ((mm_b1 (mm_loop (σ := Int32 × mm_M) (ρ := (mm_M)) (fun (s : Int32 × mm_M) => match s with
| (v2, m3) => (if (m3 9 0 5) ≤ v2 then (some (.inr m3))
else (if 8 ≤ (m3 10 2 1) then (some (.inr m3))
else (mm_b1 (f_X4_otherEnd v2 a1 m3) fun r4 =>
if r4 = (-1) then (mm_let (v2 + 1) fun v5 =>
some (.inl (v5, m3)))
else (if ((a4 >>> (r4 &&& 31)) &&& 1) ≠ 0 then (mm_let (v2 + 1) fun v6 =>
some (.inl (v6, m3)))
else (if mm_in v2 10 then (
mm_b1 (f_X10_add 2 v2 (m3 56 0 v2.toNatClampNeg) m3) fun m8 =>
mm_b1 (f_X4_leadOn n r4 a2 a3 (a4 ||| (1 <<< (r4 &&& 31))) m8) fun m10 =>
if mm_in v2 10 then (
mm_b1 (f_X10_dropLast 2 (m10 56 0 v2.toNatClampNeg) m10) fun m12 =>
mm_let (v2 + 1) fun v13 =>
some (.inl (v13, m12))) else none) else none)))) : Option ((Int32 × mm_M) ⊕ ((mm_M))))) mm_fu (0, m)) fun m14 =>
some m14))
else (mm_b2 (f_X4_findLeast a2 a3 (m 10 2 3) m) fun r15 m16 =>
if r15 = 0 then (some m16)
else (mm_b1 (f_X4_isBetterPair m16) fun r17 =>
if r17 = 0 then (some m16)
else (mm_let (mm_w m16 9 0 14 ((m16 10 2 2) + (m16 10 1 2))) fun m18 =>
mm_b1 (f_X10_takeOver 3 2 m18) fun m20 =>
mm_b1 (f_X10_takeOver 4 1 m20) fun m22 =>
some m22)))
set_option maxHeartbeats 4000000 in
set_option maxRecDepth 100000 in
theorem k_X4_leadOn (n : Nat) : ∀ (d : Nat) (hd : 17 + 1 * n ≤ d) (a1 : Int32) (a2 : Int32) (a3 : Int32) (a4 : Int32) (m : mm_M) (r : mm_M) (hres : f_X4_leadOn n a1 a2 a3 a4 m = some r), mm_X d 140 [.inr (.inr (some (9, 0))), .inl a1, .inl a2, .inl a3, .inl a4] m (.inl none, r, 0, 0) := by
  induction n with
  | zero => intro d hd a1 a2 a3 a4 m r hres; cases hres
  | succ n ih =>
    intro d hd a1 a2 a3 a4 m r hres
    have hRF : ∀ (a1 : Int32) (a2 : Int32) (a3 : Int32) (a4 : Int32) (m : mm_M) (r : mm_M), f_X4_leadOn n a1 a2 a3 a4 m = some r → ∀ d, (17 + 1 * n) ≤ d → mm_X d 140 [.inr (.inr (some (9, 0))), .inl a1, .inl a2, .inl a3, .inl a4] m (.inl none, r, 0, 0) := fun a1 a2 a3 a4 m r h d hd => ih d hd a1 a2 a3 a4 m r h
    obtain ⟨d, rfl⟩ : ∃ e, d = e + 1 := ⟨d - 1, by omega⟩
    show mm_E (d + 1) 140 (0, [some (.inr (.inr (some (9, 0)))), some (.inl a1), some (.inl a2), some (.inl a3), some (.inl a4), none, none], [], m) (.inl none, r, 0, 0)
    refine e_steps 2 (s' := (2, [some (.inr (.inr (some (9, 0)))), some (.inl a1), some (.inl a2), some (.inl a3), some (.inl a4), none, none], [.inl a3, .inl a1], m)) rfl ?_
    refine e_if (s1 := (70, [some (.inr (.inr (some (9, 0)))), some (.inl a1), some (.inl a2), some (.inl a3), some (.inl a4), none, none], [], m)) (s2 := (5, [some (.inr (.inr (some (9, 0)))), some (.inl a1), some (.inl a2), some (.inl a3), some (.inl a4), none, none], [], m)) rfl hres (fun hc hres => ?_) (fun hc hres => ?_)
    · refine e_steps 2 (s' := (73, [some (.inr (.inr (some (9, 0)))), some (.inl a1), some (.inl a2), some (.inl a3), some (.inl a4), some (.inl 0), none], [], m)) rfl ?_
      refine e_mask (L' := [some (.inr (.inr (some (9, 0)))), some (.inl a1), some (.inl a2), some (.inl a3), some (.inl a4), some (.inl 0), none]) rfl ?_
      refine e_loopb (φ := fun s => (73, [some (.inr (.inr (some (9, 0)))), some (.inl a1), some (.inl a2), some (.inl a3), some (.inl a4), some (.inl s.1), none], [], s.2)) (K := fun t => mm_E (d + 1) 140 (170, [none, none, none, none, none, none, none], [], t) (.inl none, r, 0, 0)) hres (fun m14 hres => ?_) (fun s ol1 hres hcl1 hxl1 => ?_)
      · show mm_E (d + 1) 140 (170, [none, none, none, none, none, none, none], [], m14) (.inl none, r, 0, 0)
        obtain rfl := Option.some.inj hres
        exact e_ret rfl rfl
      · obtain ⟨v2, m3⟩ := s
        show mm_E (d + 1) 140 (73, [some (.inr (.inr (some (9, 0)))), some (.inl a1), some (.inl a2), some (.inl a3), some (.inl a4), some (.inl v2), none], [], m3) (.inl none, r, 0, 0)
        refine e_steps 3 (s' := (79, [some (.inr (.inr (some (9, 0)))), some (.inl a1), some (.inl a2), some (.inl a3), some (.inl a4), some (.inl v2), none], [.inl (m3 9 0 5), .inl v2], m3)) rfl ?_
        refine e_if (s1 := (170, [some (.inr (.inr (some (9, 0)))), some (.inl a1), some (.inl a2), some (.inl a3), some (.inl a4), some (.inl v2), none], [], m3)) (s2 := (82, [some (.inr (.inr (some (9, 0)))), some (.inl a1), some (.inl a2), some (.inl a3), some (.inl a4), some (.inl v2), none], [], m3)) rfl hres (fun hc hres => ?_) (fun hc hres => ?_)
        · obtain rfl := Option.some.inj hres
          exact e_mask (L' := [none, none, none, none, none, none, none]) rfl (hxl1 _ rfl)
        · refine e_steps 4 (s' := (91, [some (.inr (.inr (some (9, 0)))), some (.inl a1), some (.inl a2), some (.inl a3), some (.inl a4), some (.inl v2), none], [.inl 8, .inl (m3 10 2 1)], m3)) rfl ?_
          refine e_if (s1 := (170, [some (.inr (.inr (some (9, 0)))), some (.inl a1), some (.inl a2), some (.inl a3), some (.inl a4), some (.inl v2), none], [], m3)) (s2 := (94, [some (.inr (.inr (some (9, 0)))), some (.inl a1), some (.inl a2), some (.inl a3), some (.inl a4), some (.inl v2), none], [], m3)) rfl hres (fun hc hres => ?_) (fun hc hres => ?_)
          · obtain rfl := Option.some.inj hres
            exact e_mask (L' := [none, none, none, none, none, none, none]) rfl (hxl1 _ rfl)
          · refine e_steps 3 (s' := (98, [some (.inr (.inr (some (9, 0)))), some (.inl a1), some (.inl a2), some (.inl a3), some (.inl a4), some (.inl v2), none], [.inl a1, .inl v2, .inr (.inr (some (9, 0)))], m3)) rfl ?_
            obtain ⟨r4, hv, hres⟩ := mm_b1_some hres
            refine e_call0 (pc := 101) (L := [some (.inr (.inr (some (9, 0)))), some (.inl a1), some (.inl a2), some (.inl a3), some (.inl a4), some (.inl v2), none]) (st := []) (m' := m3) (v := some (.inl r4)) rfl (k_X4_otherEnd d (by omega) v2 a1 _ _ hv) ?_
            show mm_E (d + 1) 140 (101, [some (.inr (.inr (some (9, 0)))), some (.inl a1), some (.inl a2), some (.inl a3), some (.inl a4), some (.inl v2), none], [.inl r4], m3) (.inl none, r, 0, 0)
            refine e_steps 3 (s' := (106, [some (.inr (.inr (some (9, 0)))), some (.inl a1), some (.inl a2), some (.inl a3), some (.inl a4), some (.inl v2), some (.inl r4)], [.inl (-1), .inl r4], m3)) rfl ?_
            refine e_if (s1 := (164, [some (.inr (.inr (some (9, 0)))), some (.inl a1), some (.inl a2), some (.inl a3), some (.inl a4), some (.inl v2), some (.inl r4)], [], m3)) (s2 := (109, [some (.inr (.inr (some (9, 0)))), some (.inl a1), some (.inl a2), some (.inl a3), some (.inl a4), some (.inl v2), some (.inl r4)], [], m3)) rfl hres (fun hc hres => ?_) (fun hc hres => ?_)
            · refine e_mask (L' := [some (.inr (.inr (some (9, 0)))), some (.inl a1), some (.inl a2), some (.inl a3), some (.inl a4), some (.inl v2), none]) rfl ?_
              refine e_steps 1 (s' := (167, [some (.inr (.inr (some (9, 0)))), some (.inl a1), some (.inl a2), some (.inl a3), some (.inl a4), some (.inl (v2 + 1)), none], [], m3)) rfl ?_
              refine e_let (fun (v5 : Int32) => (167, [some (.inr (.inr (some (9, 0)))), some (.inl a1), some (.inl a2), some (.inl a3), some (.inl a4), some (.inl v5), none], [], m3)) hres (fun v5 hres => ?_)
              refine e_steps 1 (s' := (73, [some (.inr (.inr (some (9, 0)))), some (.inl a1), some (.inl a2), some (.inl a3), some (.inl a4), some (.inl v5), none], [], m3)) rfl ?_
              obtain rfl := Option.some.inj hres
              exact e_mask (L' := [some (.inr (.inr (some (9, 0)))), some (.inl a1), some (.inl a2), some (.inl a3), some (.inl a4), some (.inl v5), none]) rfl (hcl1 _ rfl)
            · refine e_steps 5 (s' := (116, [some (.inr (.inr (some (9, 0)))), some (.inl a1), some (.inl a2), some (.inl a3), some (.inl a4), some (.inl v2), some (.inl r4)], [.inl ((a4 >>> (r4 &&& 31)) &&& 1)], m3)) rfl ?_
              refine e_if (s1 := (164, [some (.inr (.inr (some (9, 0)))), some (.inl a1), some (.inl a2), some (.inl a3), some (.inl a4), some (.inl v2), some (.inl r4)], [], m3)) (s2 := (119, [some (.inr (.inr (some (9, 0)))), some (.inl a1), some (.inl a2), some (.inl a3), some (.inl a4), some (.inl v2), some (.inl r4)], [], m3)) rfl hres (fun hc hres => ?_) (fun hc hres => ?_)
              · refine e_mask (L' := [some (.inr (.inr (some (9, 0)))), some (.inl a1), some (.inl a2), some (.inl a3), some (.inl a4), some (.inl v2), none]) rfl ?_
                refine e_steps 1 (s' := (167, [some (.inr (.inr (some (9, 0)))), some (.inl a1), some (.inl a2), some (.inl a3), some (.inl a4), some (.inl (v2 + 1)), none], [], m3)) rfl ?_
                refine e_let (fun (v6 : Int32) => (167, [some (.inr (.inr (some (9, 0)))), some (.inl a1), some (.inl a2), some (.inl a3), some (.inl a4), some (.inl v6), none], [], m3)) hres (fun v6 hres => ?_)
                refine e_steps 1 (s' := (73, [some (.inr (.inr (some (9, 0)))), some (.inl a1), some (.inl a2), some (.inl a3), some (.inl a4), some (.inl v6), none], [], m3)) rfl ?_
                obtain rfl := Option.some.inj hres
                exact e_mask (L' := [some (.inr (.inr (some (9, 0)))), some (.inl a1), some (.inl a2), some (.inl a3), some (.inl a4), some (.inl v6), none]) rfl (hcl1 _ rfl)
              · refine e_steps 6 (s' := (131, [some (.inr (.inr (some (9, 0)))), some (.inl a1), some (.inl a2), some (.inl a3), some (.inl a4), some (.inl v2), some (.inl r4)], [.inl v2, .inr (.inr (some (56, 0))), .inl v2, .inr (.inr (some (10, 2)))], m3)) rfl ?_
                refine e_gd (s1 := (132, [some (.inr (.inr (some (9, 0)))), some (.inl a1), some (.inl a2), some (.inl a3), some (.inl a4), some (.inl v2), some (.inl r4)], [.inl (m3 56 0 v2.toNatClampNeg), .inl v2, .inr (.inr (some (10, 2)))], m3)) rfl hres (fun hc hres => ?_)
                obtain ⟨m8, hv, hres⟩ := mm_b1_some hres
                refine e_call0 (pc := 135) (L := [some (.inr (.inr (some (9, 0)))), some (.inl a1), some (.inl a2), some (.inl a3), some (.inl a4), some (.inl v2), some (.inl r4)]) (st := []) (m' := m8) (v := none) rfl (k_X10_add d (by omega) 2 v2 (m3 56 0 v2.toNatClampNeg) _ _ hv) ?_
                show mm_E (d + 1) 140 (135, [some (.inr (.inr (some (9, 0)))), some (.inl a1), some (.inl a2), some (.inl a3), some (.inl a4), some (.inl v2), some (.inl r4)], [], m8) (.inl none, r, 0, 0)
                refine e_steps 9 (s' := (147, [some (.inr (.inr (some (9, 0)))), some (.inl a1), some (.inl a2), some (.inl a3), some (.inl a4), some (.inl v2), some (.inl r4)], [.inl (a4 ||| (1 <<< (r4 &&& 31))), .inl a3, .inl a2, .inl r4, .inr (.inr (some (9, 0)))], m8)) rfl ?_
                obtain ⟨m10, hv, hres⟩ := mm_b1_some hres
                refine e_call0 (pc := 150) (L := [some (.inr (.inr (some (9, 0)))), some (.inl a1), some (.inl a2), some (.inl a3), some (.inl a4), some (.inl v2), some (.inl r4)]) (st := []) (m' := m10) (v := none) rfl (hRF r4 a2 a3 (a4 ||| (1 <<< (r4 &&& 31))) _ _ hv d (by omega)) ?_
                show mm_E (d + 1) 140 (150, [some (.inr (.inr (some (9, 0)))), some (.inl a1), some (.inl a2), some (.inl a3), some (.inl a4), some (.inl v2), some (.inl r4)], [], m10) (.inl none, r, 0, 0)
                refine e_steps 5 (s' := (160, [some (.inr (.inr (some (9, 0)))), some (.inl a1), some (.inl a2), some (.inl a3), some (.inl a4), some (.inl v2), some (.inl r4)], [.inl v2, .inr (.inr (some (56, 0))), .inr (.inr (some (10, 2)))], m10)) rfl ?_
                refine e_gd (s1 := (161, [some (.inr (.inr (some (9, 0)))), some (.inl a1), some (.inl a2), some (.inl a3), some (.inl a4), some (.inl v2), some (.inl r4)], [.inl (m10 56 0 v2.toNatClampNeg), .inr (.inr (some (10, 2)))], m10)) rfl hres (fun hc hres => ?_)
                obtain ⟨m12, hv, hres⟩ := mm_b1_some hres
                refine e_call0 (pc := 164) (L := [some (.inr (.inr (some (9, 0)))), some (.inl a1), some (.inl a2), some (.inl a3), some (.inl a4), some (.inl v2), some (.inl r4)]) (st := []) (m' := m12) (v := none) rfl (k_X10_dropLast d (by omega) 2 (m10 56 0 v2.toNatClampNeg) _ _ hv) ?_
                show mm_E (d + 1) 140 (164, [some (.inr (.inr (some (9, 0)))), some (.inl a1), some (.inl a2), some (.inl a3), some (.inl a4), some (.inl v2), some (.inl r4)], [], m12) (.inl none, r, 0, 0)
                refine e_mask (L' := [some (.inr (.inr (some (9, 0)))), some (.inl a1), some (.inl a2), some (.inl a3), some (.inl a4), some (.inl v2), none]) rfl ?_
                refine e_steps 1 (s' := (167, [some (.inr (.inr (some (9, 0)))), some (.inl a1), some (.inl a2), some (.inl a3), some (.inl a4), some (.inl (v2 + 1)), none], [], m12)) rfl ?_
                refine e_let (fun (v13 : Int32) => (167, [some (.inr (.inr (some (9, 0)))), some (.inl a1), some (.inl a2), some (.inl a3), some (.inl a4), some (.inl v13), none], [], m12)) hres (fun v13 hres => ?_)
                refine e_steps 1 (s' := (73, [some (.inr (.inr (some (9, 0)))), some (.inl a1), some (.inl a2), some (.inl a3), some (.inl a4), some (.inl v13), none], [], m12)) rfl ?_
                obtain rfl := Option.some.inj hres
                exact e_mask (L' := [some (.inr (.inr (some (9, 0)))), some (.inl a1), some (.inl a2), some (.inl a3), some (.inl a4), some (.inl v13), none]) rfl (hcl1 _ rfl)
    · refine e_steps 6 (s' := (15, [some (.inr (.inr (some (9, 0)))), some (.inl a1), some (.inl a2), some (.inl a3), some (.inl a4), none, none], [.inl (m 10 2 3), .inl a3, .inl a2, .inr (.inr (some (9, 0)))], m)) rfl ?_
      obtain ⟨r15, m16, hv, hres⟩ := mm_b2_some hres
      refine e_call0 (pc := 18) (L := [some (.inr (.inr (some (9, 0)))), some (.inl a1), some (.inl a2), some (.inl a3), some (.inl a4), none, none]) (st := []) (m' := m16) (v := some (.inl r15)) rfl (k_X4_findLeast d (by omega) a2 a3 (m 10 2 3) _ _ hv) ?_
      show mm_E (d + 1) 140 (18, [some (.inr (.inr (some (9, 0)))), some (.inl a1), some (.inl a2), some (.inl a3), some (.inl a4), none, none], [.inl r15], m16) (.inl none, r, 0, 0)
      refine e_if (s1 := (69, [some (.inr (.inr (some (9, 0)))), some (.inl a1), some (.inl a2), some (.inl a3), some (.inl a4), none, none], [], m16)) (s2 := (21, [some (.inr (.inr (some (9, 0)))), some (.inl a1), some (.inl a2), some (.inl a3), some (.inl a4), none, none], [], m16)) rfl hres (fun hc hres => ?_) (fun hc hres => ?_)
      · refine e_mask (L' := [none, none, none, none, none, none, none]) rfl ?_
        obtain rfl := Option.some.inj hres
        exact e_ret rfl rfl
      · refine e_steps 1 (s' := (22, [some (.inr (.inr (some (9, 0)))), some (.inl a1), some (.inl a2), some (.inl a3), some (.inl a4), none, none], [.inr (.inr (some (9, 0)))], m16)) rfl ?_
        obtain ⟨r17, hv, hres⟩ := mm_b1_some hres
        refine e_call0 (pc := 25) (L := [some (.inr (.inr (some (9, 0)))), some (.inl a1), some (.inl a2), some (.inl a3), some (.inl a4), none, none]) (st := []) (m' := m16) (v := some (.inl r17)) rfl (k_X4_isBetterPair d (by omega)  _ _ hv) ?_
        show mm_E (d + 1) 140 (25, [some (.inr (.inr (some (9, 0)))), some (.inl a1), some (.inl a2), some (.inl a3), some (.inl a4), none, none], [.inl r17], m16) (.inl none, r, 0, 0)
        refine e_if (s1 := (69, [some (.inr (.inr (some (9, 0)))), some (.inl a1), some (.inl a2), some (.inl a3), some (.inl a4), none, none], [], m16)) (s2 := (28, [some (.inr (.inr (some (9, 0)))), some (.inl a1), some (.inl a2), some (.inl a3), some (.inl a4), none, none], [], m16)) rfl hres (fun hc hres => ?_) (fun hc hres => ?_)
        · refine e_mask (L' := [none, none, none, none, none, none, none]) rfl ?_
          obtain rfl := Option.some.inj hres
          exact e_ret rfl rfl
        · refine e_steps 9 (s' := (47, [some (.inr (.inr (some (9, 0)))), some (.inl a1), some (.inl a2), some (.inl a3), some (.inl a4), none, none], [], (mm_w m16 9 0 14 ((m16 10 2 2) + (m16 10 1 2))))) rfl ?_
          refine e_let (fun (m18 : mm_M) => (47, [some (.inr (.inr (some (9, 0)))), some (.inl a1), some (.inl a2), some (.inl a3), some (.inl a4), none, none], [], m18)) hres (fun m18 hres => ?_)
          refine e_steps 4 (s' := (55, [some (.inr (.inr (some (9, 0)))), some (.inl a1), some (.inl a2), some (.inl a3), some (.inl a4), none, none], [.inr (.inr (some (10, 2))), .inr (.inr (some (10, 3)))], m18)) rfl ?_
          obtain ⟨m20, hv, hres⟩ := mm_b1_some hres
          refine e_call0 (pc := 58) (L := [some (.inr (.inr (some (9, 0)))), some (.inl a1), some (.inl a2), some (.inl a3), some (.inl a4), none, none]) (st := []) (m' := m20) (v := none) rfl (k_X10_takeOver d (by omega) 3 2 _ _ hv) ?_
          show mm_E (d + 1) 140 (58, [some (.inr (.inr (some (9, 0)))), some (.inl a1), some (.inl a2), some (.inl a3), some (.inl a4), none, none], [], m20) (.inl none, r, 0, 0)
          refine e_steps 4 (s' := (66, [some (.inr (.inr (some (9, 0)))), some (.inl a1), some (.inl a2), some (.inl a3), some (.inl a4), none, none], [.inr (.inr (some (10, 1))), .inr (.inr (some (10, 4)))], m20)) rfl ?_
          obtain ⟨m22, hv, hres⟩ := mm_b1_some hres
          refine e_call0 (pc := 69) (L := [some (.inr (.inr (some (9, 0)))), some (.inl a1), some (.inl a2), some (.inl a3), some (.inl a4), none, none]) (st := []) (m' := m22) (v := none) rfl (k_X10_takeOver d (by omega) 4 1 _ _ hv) ?_
          show mm_E (d + 1) 140 (69, [some (.inr (.inr (some (9, 0)))), some (.inl a1), some (.inl a2), some (.inl a3), some (.inl a4), none, none], [], m22) (.inl none, r, 0, 0)
          refine e_mask (L' := [none, none, none, none, none, none, none]) rfl ?_
          obtain rfl := Option.some.inj hres
          exact e_ret rfl rfl
/-- GlassThreads$Net.keepPair(II)I -/
def f_X4_keepPair (a1 : Int32) (a2 : Int32) (m : mm_M) : Option (Int32 × mm_M) :=
mm_let (mm_w m 9 0 14 (-1)) fun m1 =>
mm_b1 (f_X10_clear 2 m1) fun m3 =>
mm_b1 (f_X4_leadOn 16 a1 a1 a2 (1 <<< (a1 &&& 31)) m3) fun m5 =>
some ((m5 9 0 14), m5)
set_option maxHeartbeats 4000000 in
set_option maxRecDepth 100000 in
theorem k_X4_keepPair (d : Nat) (hd : 34 ≤ d) (a1 : Int32) (a2 : Int32) (m : mm_M) (r : Int32 × mm_M) (hres : f_X4_keepPair a1 a2 m = some r) : mm_X d 139 [.inr (.inr (some (9, 0))), .inl a1, .inl a2] m (.inl (some (.inl r.1)), r.2, 0, 0) := by
  unfold f_X4_keepPair at hres
  obtain ⟨d, rfl⟩ : ∃ e, d = e + 1 := ⟨d - 1, by omega⟩
  show mm_E (d + 1) 139 (0, [some (.inr (.inr (some (9, 0)))), some (.inl a1), some (.inl a2)], [], m) (.inl (some (.inl r.1)), r.2, 0, 0)
  refine e_steps 3 (s' := (5, [some (.inr (.inr (some (9, 0)))), some (.inl a1), some (.inl a2)], [], (mm_w m 9 0 14 (-1)))) rfl ?_
  refine e_let (fun (m1 : mm_M) => (5, [some (.inr (.inr (some (9, 0)))), some (.inl a1), some (.inl a2)], [], m1)) hres (fun m1 hres => ?_)
  refine e_steps 2 (s' := (9, [some (.inr (.inr (some (9, 0)))), some (.inl a1), some (.inl a2)], [.inr (.inr (some (10, 2)))], m1)) rfl ?_
  obtain ⟨m3, hv, hres⟩ := mm_b1_some hres
  refine e_call0 (pc := 12) (L := [some (.inr (.inr (some (9, 0)))), some (.inl a1), some (.inl a2)]) (st := []) (m' := m3) (v := none) rfl (k_X10_clear d (by omega) 2 _ _ hv) ?_
  show mm_E (d + 1) 139 (12, [some (.inr (.inr (some (9, 0)))), some (.inl a1), some (.inl a2)], [], m3) (.inl (some (.inl r.1)), r.2, 0, 0)
  refine e_steps 7 (s' := (19, [some (.inr (.inr (some (9, 0)))), some (.inl a1), some (.inl a2)], [.inl (1 <<< (a1 &&& 31)), .inl a2, .inl a1, .inl a1, .inr (.inr (some (9, 0)))], m3)) rfl ?_
  obtain ⟨m5, hv, hres⟩ := mm_b1_some hres
  refine e_call0 (pc := 22) (L := [some (.inr (.inr (some (9, 0)))), some (.inl a1), some (.inl a2)]) (st := []) (m' := m5) (v := none) rfl (k_X4_leadOn 16 d (by omega) a1 a1 a2 (1 <<< (a1 &&& 31)) _ _ hv) ?_
  show mm_E (d + 1) 139 (22, [some (.inr (.inr (some (9, 0)))), some (.inl a1), some (.inl a2)], [], m5) (.inl (some (.inl r.1)), r.2, 0, 0)
  refine e_steps 2 (s' := (26, [some (.inr (.inr (some (9, 0)))), some (.inl a1), some (.inl a2)], [.inl (m5 9 0 14)], m5)) rfl ?_
  obtain rfl := Option.some.inj hres
  exact e_ret rfl rfl
/-- GlassThreads$Net.leastColours(I)I -/
def f_X4_leastColours (a1 : Int32) (m : mm_M) : Option (Int32) :=
(mm_b1 (mm_loop (σ := Int32 × Int32) (ρ := (Int32)) (fun (s : Int32 × Int32) => match s with
| (v2, v3) => (if (m 9 0 5) ≤ v3 then (some (.inr v2))
else (if ((a1 >>> (v3 &&& 31)) &&& 1) ≠ 1 then (mm_let (v3 + 1) fun v4 =>
some (.inl (v2, v4)))
else (if mm_in v3 10 then (
mm_let (mm_min v2 (m 55 0 v3.toNatClampNeg)) fun v5 =>
mm_let (v3 + 1) fun v6 =>
some (.inl (v5, v6))) else none)) : Option ((Int32 × Int32) ⊕ ((Int32))))) mm_fu (8, 0)) fun v7 =>
some v7)
set_option maxHeartbeats 4000000 in
set_option maxRecDepth 100000 in
theorem k_X4_leastColours (d : Nat) (hd : 0 ≤ d) (a1 : Int32) (m : mm_M) (r : Int32) (hres : f_X4_leastColours a1 m = some r) : mm_X d 144 [.inr (.inr (some (9, 0))), .inl a1] m (.inl (some (.inl r)), m, 0, 0) := by
  unfold f_X4_leastColours at hres
  show mm_E d 144 (0, [some (.inr (.inr (some (9, 0)))), some (.inl a1), none, none], [], m) (.inl (some (.inl r)), m, 0, 0)
  refine e_steps 4 (s' := (5, [some (.inr (.inr (some (9, 0)))), some (.inl a1), some (.inl 8), some (.inl 0)], [], m)) rfl ?_
  refine e_mask (L' := [some (.inr (.inr (some (9, 0)))), some (.inl a1), some (.inl 8), some (.inl 0)]) rfl ?_
  refine e_loopb (φ := fun s => (5, [some (.inr (.inr (some (9, 0)))), some (.inl a1), some (.inl s.1), some (.inl s.2)], [], m)) (K := fun t => mm_E d 144 (39, [none, none, some (.inl t), none], [], m) (.inl (some (.inl r)), m, 0, 0)) hres (fun v7 hres => ?_) (fun s ol1 hres hcl1 hxl1 => ?_)
  · show mm_E d 144 (39, [none, none, some (.inl v7), none], [], m) (.inl (some (.inl r)), m, 0, 0)
    refine e_steps 1 (s' := (40, [none, none, some (.inl v7), none], [.inl v7], m)) rfl ?_
    obtain rfl := Option.some.inj hres
    exact e_ret rfl rfl
  · obtain ⟨v2, v3⟩ := s
    show mm_E d 144 (5, [some (.inr (.inr (some (9, 0)))), some (.inl a1), some (.inl v2), some (.inl v3)], [], m) (.inl (some (.inl r)), m, 0, 0)
    refine e_steps 3 (s' := (10, [some (.inr (.inr (some (9, 0)))), some (.inl a1), some (.inl v2), some (.inl v3)], [.inl (m 9 0 5), .inl v3], m)) rfl ?_
    refine e_if (s1 := (39, [some (.inr (.inr (some (9, 0)))), some (.inl a1), some (.inl v2), some (.inl v3)], [], m)) (s2 := (13, [some (.inr (.inr (some (9, 0)))), some (.inl a1), some (.inl v2), some (.inl v3)], [], m)) rfl hres (fun hc hres => ?_) (fun hc hres => ?_)
    · obtain rfl := Option.some.inj hres
      exact e_mask (L' := [none, none, some (.inl v2), none]) rfl (hxl1 _ rfl)
    · refine e_steps 6 (s' := (19, [some (.inr (.inr (some (9, 0)))), some (.inl a1), some (.inl v2), some (.inl v3)], [.inl 1, .inl ((a1 >>> (v3 &&& 31)) &&& 1)], m)) rfl ?_
      refine e_if (s1 := (33, [some (.inr (.inr (some (9, 0)))), some (.inl a1), some (.inl v2), some (.inl v3)], [], m)) (s2 := (22, [some (.inr (.inr (some (9, 0)))), some (.inl a1), some (.inl v2), some (.inl v3)], [], m)) rfl hres (fun hc hres => ?_) (fun hc hres => ?_)
      · refine e_steps 1 (s' := (36, [some (.inr (.inr (some (9, 0)))), some (.inl a1), some (.inl v2), some (.inl (v3 + 1))], [], m)) rfl ?_
        refine e_let (fun (v4 : Int32) => (36, [some (.inr (.inr (some (9, 0)))), some (.inl a1), some (.inl v2), some (.inl v4)], [], m)) hres (fun v4 hres => ?_)
        refine e_steps 1 (s' := (5, [some (.inr (.inr (some (9, 0)))), some (.inl a1), some (.inl v2), some (.inl v4)], [], m)) rfl ?_
        obtain rfl := Option.some.inj hres
        exact e_mask (L' := [some (.inr (.inr (some (9, 0)))), some (.inl a1), some (.inl v2), some (.inl v4)]) rfl (hcl1 _ rfl)
      · refine e_steps 4 (s' := (28, [some (.inr (.inr (some (9, 0)))), some (.inl a1), some (.inl v2), some (.inl v3)], [.inl v3, .inr (.inr (some (55, 0))), .inl v2], m)) rfl ?_
        refine e_gd (s1 := (29, [some (.inr (.inr (some (9, 0)))), some (.inl a1), some (.inl v2), some (.inl v3)], [.inl (m 55 0 v3.toNatClampNeg), .inl v2], m)) rfl hres (fun hc hres => ?_)
        refine e_steps 2 (s' := (33, [some (.inr (.inr (some (9, 0)))), some (.inl a1), some (.inl (mm_min v2 (m 55 0 v3.toNatClampNeg))), some (.inl v3)], [], m)) rfl ?_
        refine e_let (fun (v5 : Int32) => (33, [some (.inr (.inr (some (9, 0)))), some (.inl a1), some (.inl v5), some (.inl v3)], [], m)) hres (fun v5 hres => ?_)
        refine e_steps 1 (s' := (36, [some (.inr (.inr (some (9, 0)))), some (.inl a1), some (.inl v5), some (.inl (v3 + 1))], [], m)) rfl ?_
        refine e_let (fun (v6 : Int32) => (36, [some (.inr (.inr (some (9, 0)))), some (.inl a1), some (.inl v5), some (.inl v6)], [], m)) hres (fun v6 hres => ?_)
        refine e_steps 1 (s' := (5, [some (.inr (.inr (some (9, 0)))), some (.inl a1), some (.inl v5), some (.inl v6)], [], m)) rfl ?_
        obtain rfl := Option.some.inj hres
        exact e_mask (L' := [some (.inr (.inr (some (9, 0)))), some (.inl a1), some (.inl v5), some (.inl v6)]) rfl (hcl1 _ rfl)
/-- GlassThreads$Net.isFree(II)Z -/
def f_X4_isFree (a1 : Int32) (a2 : Int32) (m : mm_M) : Option (Int32) :=
(mm_b1 (mm_loop (σ := Int32) (ρ := (Unit) ⊕ (Unit)) (fun (v2 : Int32) => (if a1 ≤ v2 then (some (.inr (.inr ())))
else (if mm_in v2 6 then (
if (m 60 0 v2.toNatClampNeg) ≠ a2 then (mm_let (v2 + 1) fun v3 =>
some (.inl v3))
else (if mm_in v2 6 then (
if mm_in a1 6 then (
if ((m 59 0 v2.toNatClampNeg) &&& (m 59 0 a1.toNatClampNeg)) = 0 then (mm_let (v2 + 1) fun v4 =>
some (.inl v4))
else (some (.inr (.inl ())))) else none) else none)) else none) : Option ((Int32) ⊕ ((Unit) ⊕ (Unit))))) mm_fu 0) fun t => match t with
| .inl _ => some 0
| .inr _ => some 1)
set_option maxHeartbeats 4000000 in
set_option maxRecDepth 100000 in
theorem k_X4_isFree (d : Nat) (hd : 0 ≤ d) (a1 : Int32) (a2 : Int32) (m : mm_M) (r : Int32) (hres : f_X4_isFree a1 a2 m = some r) : mm_X d 145 [.inr (.inr (some (9, 0))), .inl a1, .inl a2] m (.inl (some (.inl r)), m, 0, 0) := by
  unfold f_X4_isFree at hres
  show mm_E d 145 (0, [some (.inr (.inr (some (9, 0)))), some (.inl a1), some (.inl a2), none], [], m) (.inl (some (.inl r)), m, 0, 0)
  refine e_steps 2 (s' := (2, [some (.inr (.inr (some (9, 0)))), some (.inl a1), some (.inl a2), some (.inl 0)], [], m)) rfl ?_
  refine e_mask (L' := [some (.inr (.inr (some (9, 0)))), some (.inl a1), some (.inl a2), some (.inl 0)]) rfl ?_
  refine e_loopb (φ := fun s => (2, [some (.inr (.inr (some (9, 0)))), some (.inl a1), some (.inl a2), some (.inl s)], [], m)) (K := fun t => match t with | .inl t => mm_E d 145 (33, [none, none, none, none], [], m) (.inl (some (.inl r)), m, 0, 0) | .inr t => mm_E d 145 (41, [none, none, none, none], [], m) (.inl (some (.inl r)), m, 0, 0)) hres (fun t hres => ?_) (fun v2 ol1 hres hcl1 hxl1 => ?_)
  · rcases t with _ | _
    · show mm_E d 145 (33, [none, none, none, none], [], m) (.inl (some (.inl r)), m, 0, 0)
      refine e_steps 1 (s' := (34, [none, none, none, none], [.inl 0], m)) rfl ?_
      obtain rfl := Option.some.inj hres
      exact e_ret rfl rfl
    · show mm_E d 145 (41, [none, none, none, none], [], m) (.inl (some (.inl r)), m, 0, 0)
      refine e_steps 1 (s' := (42, [none, none, none, none], [.inl 1], m)) rfl ?_
      obtain rfl := Option.some.inj hres
      exact e_ret rfl rfl
  · show mm_E d 145 (2, [some (.inr (.inr (some (9, 0)))), some (.inl a1), some (.inl a2), some (.inl v2)], [], m) (.inl (some (.inl r)), m, 0, 0)
    refine e_steps 2 (s' := (4, [some (.inr (.inr (some (9, 0)))), some (.inl a1), some (.inl a2), some (.inl v2)], [.inl a1, .inl v2], m)) rfl ?_
    refine e_if (s1 := (41, [some (.inr (.inr (some (9, 0)))), some (.inl a1), some (.inl a2), some (.inl v2)], [], m)) (s2 := (7, [some (.inr (.inr (some (9, 0)))), some (.inl a1), some (.inl a2), some (.inl v2)], [], m)) rfl hres (fun hc hres => ?_) (fun hc hres => ?_)
    · obtain rfl := Option.some.inj hres
      exact e_mask (L' := [none, none, none, none]) rfl (hxl1 _ rfl)
    · refine e_steps 3 (s' := (12, [some (.inr (.inr (some (9, 0)))), some (.inl a1), some (.inl a2), some (.inl v2)], [.inl v2, .inr (.inr (some (60, 0)))], m)) rfl ?_
      refine e_gd (s1 := (13, [some (.inr (.inr (some (9, 0)))), some (.inl a1), some (.inl a2), some (.inl v2)], [.inl (m 60 0 v2.toNatClampNeg)], m)) rfl hres (fun hc hres => ?_)
      refine e_steps 1 (s' := (14, [some (.inr (.inr (some (9, 0)))), some (.inl a1), some (.inl a2), some (.inl v2)], [.inl a2, .inl (m 60 0 v2.toNatClampNeg)], m)) rfl ?_
      refine e_if (s1 := (35, [some (.inr (.inr (some (9, 0)))), some (.inl a1), some (.inl a2), some (.inl v2)], [], m)) (s2 := (17, [some (.inr (.inr (some (9, 0)))), some (.inl a1), some (.inl a2), some (.inl v2)], [], m)) rfl hres (fun hc hres => ?_) (fun hc hres => ?_)
      · refine e_steps 1 (s' := (38, [some (.inr (.inr (some (9, 0)))), some (.inl a1), some (.inl a2), some (.inl (v2 + 1))], [], m)) rfl ?_
        refine e_let (fun (v3 : Int32) => (38, [some (.inr (.inr (some (9, 0)))), some (.inl a1), some (.inl a2), some (.inl v3)], [], m)) hres (fun v3 hres => ?_)
        refine e_steps 1 (s' := (2, [some (.inr (.inr (some (9, 0)))), some (.inl a1), some (.inl a2), some (.inl v3)], [], m)) rfl ?_
        obtain rfl := Option.some.inj hres
        exact e_mask (L' := [some (.inr (.inr (some (9, 0)))), some (.inl a1), some (.inl a2), some (.inl v3)]) rfl (hcl1 _ rfl)
      · refine e_steps 3 (s' := (22, [some (.inr (.inr (some (9, 0)))), some (.inl a1), some (.inl a2), some (.inl v2)], [.inl v2, .inr (.inr (some (59, 0)))], m)) rfl ?_
        refine e_gd (s1 := (23, [some (.inr (.inr (some (9, 0)))), some (.inl a1), some (.inl a2), some (.inl v2)], [.inl (m 59 0 v2.toNatClampNeg)], m)) rfl hres (fun hc hres => ?_)
        refine e_steps 3 (s' := (28, [some (.inr (.inr (some (9, 0)))), some (.inl a1), some (.inl a2), some (.inl v2)], [.inl a1, .inr (.inr (some (59, 0))), .inl (m 59 0 v2.toNatClampNeg)], m)) rfl ?_
        refine e_gd (s1 := (29, [some (.inr (.inr (some (9, 0)))), some (.inl a1), some (.inl a2), some (.inl v2)], [.inl (m 59 0 a1.toNatClampNeg), .inl (m 59 0 v2.toNatClampNeg)], m)) rfl hres (fun hc hres => ?_)
        refine e_steps 1 (s' := (30, [some (.inr (.inr (some (9, 0)))), some (.inl a1), some (.inl a2), some (.inl v2)], [.inl ((m 59 0 v2.toNatClampNeg) &&& (m 59 0 a1.toNatClampNeg))], m)) rfl ?_
        refine e_if (s1 := (35, [some (.inr (.inr (some (9, 0)))), some (.inl a1), some (.inl a2), some (.inl v2)], [], m)) (s2 := (33, [some (.inr (.inr (some (9, 0)))), some (.inl a1), some (.inl a2), some (.inl v2)], [], m)) rfl hres (fun hc hres => ?_) (fun hc hres => ?_)
        · refine e_steps 1 (s' := (38, [some (.inr (.inr (some (9, 0)))), some (.inl a1), some (.inl a2), some (.inl (v2 + 1))], [], m)) rfl ?_
          refine e_let (fun (v4 : Int32) => (38, [some (.inr (.inr (some (9, 0)))), some (.inl a1), some (.inl a2), some (.inl v4)], [], m)) hres (fun v4 hres => ?_)
          refine e_steps 1 (s' := (2, [some (.inr (.inr (some (9, 0)))), some (.inl a1), some (.inl a2), some (.inl v4)], [], m)) rfl ?_
          obtain rfl := Option.some.inj hres
          exact e_mask (L' := [some (.inr (.inr (some (9, 0)))), some (.inl a1), some (.inl a2), some (.inl v4)]) rfl (hcl1 _ rfl)
        · obtain rfl := Option.some.inj hres
          exact e_mask (L' := [none, none, none, none]) rfl (hxl1 _ rfl)
/-- GlassThreads$Net.dealFrom(II)Z -/
def f_X4_dealFrom : Nat → Int32 → Int32 → mm_M → Option (Int32 × mm_M)
  | 0 => fun _ _ _ => none
  | n + 1 => fun a1 a2 m =>
if a1 < (m 9 0 8) then (if mm_in a1 6 then (
mm_b1 (f_X4_leastColours (m 59 0 a1.toNatClampNeg) m) fun r1 =>
mm_let (mm_min a2 r1) fun v2 =>
(mm_b1 (mm_loop (σ := Int32 × mm_M) (ρ := (mm_M) ⊕ (mm_M)) (fun (s : Int32 × mm_M) => match s with
| (v4, m5) => (if v2 ≤ v4 then (some (.inr (.inr m5)))
else (mm_b1 (f_X4_isFree a1 v4 m5) fun r6 =>
if r6 = 0 then (mm_let (v4 + 1) fun v7 =>
some (.inl (v7, m5)))
else (if mm_in a1 6 then (
mm_let (mm_w m5 60 0 a1.toNatClampNeg v4) fun m8 =>
mm_b2 (f_X4_dealFrom n (a1 + 1) a2 m8) fun r9 m10 =>
if r9 = 0 then (mm_let (v4 + 1) fun v11 =>
some (.inl (v11, m10)))
else (some (.inr (.inl m10)))) else none)) : Option ((Int32 × mm_M) ⊕ ((mm_M) ⊕ (mm_M))))) mm_fu (0, m)) fun t => match t with
| .inl m12 => some (1, m12)
| .inr m13 => some (0, m13))) else none)
else (some (1, m))
set_option maxHeartbeats 4000000 in
set_option maxRecDepth 100000 in
theorem k_X4_dealFrom (n : Nat) : ∀ (d : Nat) (hd : 0 + 1 * n ≤ d) (a1 : Int32) (a2 : Int32) (m : mm_M) (r : Int32 × mm_M) (hres : f_X4_dealFrom n a1 a2 m = some r), mm_X d 143 [.inr (.inr (some (9, 0))), .inl a1, .inl a2] m (.inl (some (.inl r.1)), r.2, 0, 0) := by
  induction n with
  | zero => intro d hd a1 a2 m r hres; cases hres
  | succ n ih =>
    intro d hd a1 a2 m r hres
    have hRF : ∀ (a1 : Int32) (a2 : Int32) (m : mm_M) (r : Int32 × mm_M), f_X4_dealFrom n a1 a2 m = some r → ∀ d, (0 + 1 * n) ≤ d → mm_X d 143 [.inr (.inr (some (9, 0))), .inl a1, .inl a2] m (.inl (some (.inl r.1)), r.2, 0, 0) := fun a1 a2 m r h d hd => ih d hd a1 a2 m r h
    obtain ⟨d, rfl⟩ : ∃ e, d = e + 1 := ⟨d - 1, by omega⟩
    show mm_E (d + 1) 143 (0, [some (.inr (.inr (some (9, 0)))), some (.inl a1), some (.inl a2), none, none], [], m) (.inl (some (.inl r.1)), r.2, 0, 0)
    refine e_steps 3 (s' := (5, [some (.inr (.inr (some (9, 0)))), some (.inl a1), some (.inl a2), none, none], [.inl (m 9 0 8), .inl a1], m)) rfl ?_
    refine e_if (s1 := (10, [some (.inr (.inr (some (9, 0)))), some (.inl a1), some (.inl a2), none, none], [], m)) (s2 := (8, [some (.inr (.inr (some (9, 0)))), some (.inl a1), some (.inl a2), none, none], [], m)) rfl hres (fun hc hres => ?_) (fun hc hres => ?_)
    · refine e_steps 5 (s' := (17, [some (.inr (.inr (some (9, 0)))), some (.inl a1), some (.inl a2), none, none], [.inl a1, .inr (.inr (some (59, 0))), .inr (.inr (some (9, 0))), .inl a2], m)) rfl ?_
      refine e_gd (s1 := (18, [some (.inr (.inr (some (9, 0)))), some (.inl a1), some (.inl a2), none, none], [.inl (m 59 0 a1.toNatClampNeg), .inr (.inr (some (9, 0))), .inl a2], m)) rfl hres (fun hc hres => ?_)
      obtain ⟨r1, hv, hres⟩ := mm_b1_some hres
      refine e_call0 (pc := 21) (L := [some (.inr (.inr (some (9, 0)))), some (.inl a1), some (.inl a2), none, none]) (st := [.inl a2]) (m' := m) (v := some (.inl r1)) rfl (k_X4_leastColours d (by omega) (m 59 0 a1.toNatClampNeg) _ _ hv) ?_
      show mm_E (d + 1) 143 (21, [some (.inr (.inr (some (9, 0)))), some (.inl a1), some (.inl a2), none, none], [.inl r1, .inl a2], m) (.inl (some (.inl r.1)), r.2, 0, 0)
      refine e_steps 2 (s' := (25, [some (.inr (.inr (some (9, 0)))), some (.inl a1), some (.inl a2), some (.inl (mm_min a2 r1)), none], [], m)) rfl ?_
      refine e_let (fun (v2 : Int32) => (25, [some (.inr (.inr (some (9, 0)))), some (.inl a1), some (.inl a2), some (.inl v2), none], [], m)) hres (fun v2 hres => ?_)
      refine e_steps 2 (s' := (28, [some (.inr (.inr (some (9, 0)))), some (.inl a1), some (.inl a2), some (.inl v2), some (.inl 0)], [], m)) rfl ?_
      refine e_mask (L' := [some (.inr (.inr (some (9, 0)))), some (.inl a1), some (.inl a2), some (.inl v2), some (.inl 0)]) rfl ?_
      refine e_loopb (φ := fun s => (28, [some (.inr (.inr (some (9, 0)))), some (.inl a1), some (.inl a2), some (.inl v2), some (.inl s.1)], [], s.2)) (K := fun t => match t with | .inl t => mm_E (d + 1) 143 (63, [none, none, none, none, none], [], t) (.inl (some (.inl r.1)), r.2, 0, 0) | .inr t => mm_E (d + 1) 143 (71, [none, none, none, none, none], [], t) (.inl (some (.inl r.1)), r.2, 0, 0)) hres (fun t hres => ?_) (fun s ol3 hres hcl3 hxl3 => ?_)
      · rcases t with m12 | m13
        · show mm_E (d + 1) 143 (63, [none, none, none, none, none], [], m12) (.inl (some (.inl r.1)), r.2, 0, 0)
          refine e_steps 1 (s' := (64, [none, none, none, none, none], [.inl 1], m12)) rfl ?_
          obtain rfl := Option.some.inj hres
          exact e_ret rfl rfl
        · show mm_E (d + 1) 143 (71, [none, none, none, none, none], [], m13) (.inl (some (.inl r.1)), r.2, 0, 0)
          refine e_steps 1 (s' := (72, [none, none, none, none, none], [.inl 0], m13)) rfl ?_
          obtain rfl := Option.some.inj hres
          exact e_ret rfl rfl
      · obtain ⟨v4, m5⟩ := s
        show mm_E (d + 1) 143 (28, [some (.inr (.inr (some (9, 0)))), some (.inl a1), some (.inl a2), some (.inl v2), some (.inl v4)], [], m5) (.inl (some (.inl r.1)), r.2, 0, 0)
        refine e_steps 2 (s' := (31, [some (.inr (.inr (some (9, 0)))), some (.inl a1), some (.inl a2), some (.inl v2), some (.inl v4)], [.inl v2, .inl v4], m5)) rfl ?_
        refine e_if (s1 := (71, [some (.inr (.inr (some (9, 0)))), some (.inl a1), some (.inl a2), some (.inl v2), some (.inl v4)], [], m5)) (s2 := (34, [some (.inr (.inr (some (9, 0)))), some (.inl a1), some (.inl a2), some (.inl v2), some (.inl v4)], [], m5)) rfl hres (fun hc hres => ?_) (fun hc hres => ?_)
        · obtain rfl := Option.some.inj hres
          exact e_mask (L' := [none, none, none, none, none]) rfl (hxl3 _ rfl)
        · refine e_steps 3 (s' := (38, [some (.inr (.inr (some (9, 0)))), some (.inl a1), some (.inl a2), some (.inl v2), some (.inl v4)], [.inl v4, .inl a1, .inr (.inr (some (9, 0)))], m5)) rfl ?_
          obtain ⟨r6, hv, hres⟩ := mm_b1_some hres
          refine e_call0 (pc := 41) (L := [some (.inr (.inr (some (9, 0)))), some (.inl a1), some (.inl a2), some (.inl v2), some (.inl v4)]) (st := []) (m' := m5) (v := some (.inl r6)) rfl (k_X4_isFree d (by omega) a1 v4 _ _ hv) ?_
          show mm_E (d + 1) 143 (41, [some (.inr (.inr (some (9, 0)))), some (.inl a1), some (.inl a2), some (.inl v2), some (.inl v4)], [.inl r6], m5) (.inl (some (.inl r.1)), r.2, 0, 0)
          refine e_if (s1 := (65, [some (.inr (.inr (some (9, 0)))), some (.inl a1), some (.inl a2), some (.inl v2), some (.inl v4)], [], m5)) (s2 := (44, [some (.inr (.inr (some (9, 0)))), some (.inl a1), some (.inl a2), some (.inl v2), some (.inl v4)], [], m5)) rfl hres (fun hc hres => ?_) (fun hc hres => ?_)
          · refine e_steps 1 (s' := (68, [some (.inr (.inr (some (9, 0)))), some (.inl a1), some (.inl a2), some (.inl v2), some (.inl (v4 + 1))], [], m5)) rfl ?_
            refine e_let (fun (v7 : Int32) => (68, [some (.inr (.inr (some (9, 0)))), some (.inl a1), some (.inl a2), some (.inl v2), some (.inl v7)], [], m5)) hres (fun v7 hres => ?_)
            refine e_steps 1 (s' := (28, [some (.inr (.inr (some (9, 0)))), some (.inl a1), some (.inl a2), some (.inl v2), some (.inl v7)], [], m5)) rfl ?_
            obtain rfl := Option.some.inj hres
            exact e_mask (L' := [some (.inr (.inr (some (9, 0)))), some (.inl a1), some (.inl a2), some (.inl v2), some (.inl v7)]) rfl (hcl3 _ rfl)
          · refine e_steps 4 (s' := (51, [some (.inr (.inr (some (9, 0)))), some (.inl a1), some (.inl a2), some (.inl v2), some (.inl v4)], [.inl v4, .inl a1, .inr (.inr (some (60, 0)))], m5)) rfl ?_
            refine e_gd (s1 := (52, [some (.inr (.inr (some (9, 0)))), some (.inl a1), some (.inl a2), some (.inl v2), some (.inl v4)], [], (mm_w m5 60 0 a1.toNatClampNeg v4))) rfl hres (fun hc hres => ?_)
            refine e_let (fun (m8 : mm_M) => (52, [some (.inr (.inr (some (9, 0)))), some (.inl a1), some (.inl a2), some (.inl v2), some (.inl v4)], [], m8)) hres (fun m8 hres => ?_)
            refine e_steps 5 (s' := (57, [some (.inr (.inr (some (9, 0)))), some (.inl a1), some (.inl a2), some (.inl v2), some (.inl v4)], [.inl a2, .inl (a1 + 1), .inr (.inr (some (9, 0)))], m8)) rfl ?_
            obtain ⟨r9, m10, hv, hres⟩ := mm_b2_some hres
            refine e_call0 (pc := 60) (L := [some (.inr (.inr (some (9, 0)))), some (.inl a1), some (.inl a2), some (.inl v2), some (.inl v4)]) (st := []) (m' := m10) (v := some (.inl r9)) rfl (hRF (a1 + 1) a2 _ _ hv d (by omega)) ?_
            show mm_E (d + 1) 143 (60, [some (.inr (.inr (some (9, 0)))), some (.inl a1), some (.inl a2), some (.inl v2), some (.inl v4)], [.inl r9], m10) (.inl (some (.inl r.1)), r.2, 0, 0)
            refine e_if (s1 := (65, [some (.inr (.inr (some (9, 0)))), some (.inl a1), some (.inl a2), some (.inl v2), some (.inl v4)], [], m10)) (s2 := (63, [some (.inr (.inr (some (9, 0)))), some (.inl a1), some (.inl a2), some (.inl v2), some (.inl v4)], [], m10)) rfl hres (fun hc hres => ?_) (fun hc hres => ?_)
            · refine e_steps 1 (s' := (68, [some (.inr (.inr (some (9, 0)))), some (.inl a1), some (.inl a2), some (.inl v2), some (.inl (v4 + 1))], [], m10)) rfl ?_
              refine e_let (fun (v11 : Int32) => (68, [some (.inr (.inr (some (9, 0)))), some (.inl a1), some (.inl a2), some (.inl v2), some (.inl v11)], [], m10)) hres (fun v11 hres => ?_)
              refine e_steps 1 (s' := (28, [some (.inr (.inr (some (9, 0)))), some (.inl a1), some (.inl a2), some (.inl v2), some (.inl v11)], [], m10)) rfl ?_
              obtain rfl := Option.some.inj hres
              exact e_mask (L' := [some (.inr (.inr (some (9, 0)))), some (.inl a1), some (.inl a2), some (.inl v2), some (.inl v11)]) rfl (hcl3 _ rfl)
            · obtain rfl := Option.some.inj hres
              exact e_mask (L' := [none, none, none, none, none]) rfl (hxl3 _ rfl)
    · refine e_steps 1 (s' := (9, [some (.inr (.inr (some (9, 0)))), some (.inl a1), some (.inl a2), none, none], [.inl 1], m)) rfl ?_
      obtain rfl := Option.some.inj hres
      exact e_ret rfl rfl
/-- GlassThreads$Net.dealColours()I -/
def f_X4_dealColours  (m : mm_M) : Option (Int32 × mm_M) :=
(mm_b1 (mm_loop (σ := Int32 × mm_M) (ρ := (mm_M) ⊕ (mm_M)) (fun (s : Int32 × mm_M) => match s with
| (v2, m3) => (if (m3 9 0 8) ≤ v2 then (some (.inr (.inr m3)))
else (if mm_in v2 6 then (
if mm_in v2 6 then (
mm_b2 (f_X4_findLeast (m3 57 0 v2.toNatClampNeg) (m3 58 0 v2.toNatClampNeg) 0 m3) fun r4 m5 =>
if r4 ≠ 0 then (if mm_in v2 6 then (
mm_let (mm_w m5 59 0 v2.toNatClampNeg (m5 10 1 3)) fun m6 =>
mm_let (v2 + 1) fun v7 =>
some (.inl (v7, m6))) else none)
else (some (.inr (.inl m5)))) else none) else none) : Option ((Int32 × mm_M) ⊕ ((mm_M) ⊕ (mm_M))))) mm_fu (0, m)) fun t => match t with
| .inl m8 => some ((-1), m8)
| .inr m9 => (mm_b1 (mm_loop (σ := Int32 × mm_M) (ρ := (Int32 × mm_M) ⊕ (mm_M)) (fun (s : Int32 × mm_M) => match s with
| (v11, m12) => (if 8 < v11 then (some (.inr (.inr m12)))
else (mm_b2 (f_X4_dealFrom 16 0 v11 m12) fun r13 m14 =>
if r13 = 0 then (mm_let (v11 + 1) fun v15 =>
some (.inl (v15, m14)))
else (some (.inr (.inl (v11, m14))))) : Option ((Int32 × mm_M) ⊕ ((Int32 × mm_M) ⊕ (mm_M))))) mm_fu (0, m9)) fun t => match t with
| .inl (v16, m17) => if (0 ≤ (0 : Int32) ∧ 0 ≤ (0 : Int32) ∧ 0 ≤ (m17 9 0 8)) ∧ 0 + (m17 9 0 8).toNatClampNeg ≤ 6 ∧ 0 + (m17 9 0 8).toNatClampNeg ≤ 6 then (
mm_let (mm_wa m17 61 0 (va_cpy (m17 60 0) (m17 61 0) 0 0 ((m17 9 0 8).toNatClampNeg))) fun m18 =>
mm_let (mm_w m18 9 0 18 (m18 9 0 8)) fun m19 =>
some (v16, m19)) else none
| .inr m20 => some ((-1), m20)))
set_option maxHeartbeats 4000000 in
set_option maxRecDepth 100000 in
theorem k_X4_dealColours (d : Nat) (hd : 18 ≤ d)  (m : mm_M) (r : Int32 × mm_M) (hres : f_X4_dealColours  m = some r) : mm_X d 142 [.inr (.inr (some (9, 0)))] m (.inl (some (.inl r.1)), r.2, 0, 0) := by
  unfold f_X4_dealColours at hres
  obtain ⟨d, rfl⟩ : ∃ e, d = e + 1 := ⟨d - 1, by omega⟩
  show mm_E (d + 1) 142 (0, [some (.inr (.inr (some (9, 0)))), none], [], m) (.inl (some (.inl r.1)), r.2, 0, 0)
  refine e_steps 2 (s' := (2, [some (.inr (.inr (some (9, 0)))), some (.inl 0)], [], m)) rfl ?_
  refine e_mask (L' := [some (.inr (.inr (some (9, 0)))), some (.inl 0)]) rfl ?_
  refine e_loopb (φ := fun s => (2, [some (.inr (.inr (some (9, 0)))), some (.inl s.1)], [], s.2)) (K := fun t => match t with | .inl t => mm_E (d + 1) 142 (30, [none, none], [], t) (.inl (some (.inl r.1)), r.2, 0, 0) | .inr t => mm_E (d + 1) 142 (51, [some (.inr (.inr (some (9, 0)))), none], [], t) (.inl (some (.inl r.1)), r.2, 0, 0)) hres (fun t hres => ?_) (fun s ol1 hres hcl1 hxl1 => ?_)
  · rcases t with m8 | m9
    · show mm_E (d + 1) 142 (30, [none, none], [], m8) (.inl (some (.inl r.1)), r.2, 0, 0)
      refine e_steps 1 (s' := (31, [none, none], [.inl (-1)], m8)) rfl ?_
      obtain rfl := Option.some.inj hres
      exact e_ret rfl rfl
    · show mm_E (d + 1) 142 (51, [some (.inr (.inr (some (9, 0)))), none], [], m9) (.inl (some (.inl r.1)), r.2, 0, 0)
      refine e_steps 2 (s' := (53, [some (.inr (.inr (some (9, 0)))), some (.inl 0)], [], m9)) rfl ?_
      refine e_mask (L' := [some (.inr (.inr (some (9, 0)))), some (.inl 0)]) rfl ?_
      refine e_loopb (φ := fun s => (53, [some (.inr (.inr (some (9, 0)))), some (.inl s.1)], [], s.2)) (K := fun t => match t with | .inl t => mm_E (d + 1) 142 (68, [some (.inr (.inr (some (9, 0)))), some (.inl t.1)], [], t.2) (.inl (some (.inl r.1)), r.2, 0, 0) | .inr t => mm_E (d + 1) 142 (101, [none, none], [], t) (.inl (some (.inl r.1)), r.2, 0, 0)) hres (fun t hres => ?_) (fun s ol10 hres hcl10 hxl10 => ?_)
      · rcases t with ⟨v16, m17⟩ | m20
        · show mm_E (d + 1) 142 (68, [some (.inr (.inr (some (9, 0)))), some (.inl v16)], [], m17) (.inl (some (.inl r.1)), r.2, 0, 0)
          refine e_steps 8 (s' := (82, [some (.inr (.inr (some (9, 0)))), some (.inl v16)], [.inl (m17 9 0 8), .inl 0, .inr (.inr (some (61, 0))), .inl 0, .inr (.inr (some (60, 0)))], m17)) rfl ?_
          refine e_gd (s1 := (85, [some (.inr (.inr (some (9, 0)))), some (.inl v16)], [], (mm_wa m17 61 0 (va_cpy (m17 60 0) (m17 61 0) 0 0 ((m17 9 0 8).toNatClampNeg))))) rfl hres (fun hc hres => ?_)
          refine e_let (fun (m18 : mm_M) => (85, [some (.inr (.inr (some (9, 0)))), some (.inl v16)], [], m18)) hres (fun m18 hres => ?_)
          refine e_steps 4 (s' := (93, [some (.inr (.inr (some (9, 0)))), some (.inl v16)], [], (mm_w m18 9 0 18 (m18 9 0 8)))) rfl ?_
          refine e_let (fun (m19 : mm_M) => (93, [some (.inr (.inr (some (9, 0)))), some (.inl v16)], [], m19)) hres (fun m19 hres => ?_)
          refine e_steps 1 (s' := (94, [some (.inr (.inr (some (9, 0)))), some (.inl v16)], [.inl v16], m19)) rfl ?_
          obtain rfl := Option.some.inj hres
          exact e_ret rfl rfl
        · show mm_E (d + 1) 142 (101, [none, none], [], m20) (.inl (some (.inl r.1)), r.2, 0, 0)
          refine e_steps 1 (s' := (102, [none, none], [.inl (-1)], m20)) rfl ?_
          obtain rfl := Option.some.inj hres
          exact e_ret rfl rfl
      · obtain ⟨v11, m12⟩ := s
        show mm_E (d + 1) 142 (53, [some (.inr (.inr (some (9, 0)))), some (.inl v11)], [], m12) (.inl (some (.inl r.1)), r.2, 0, 0)
        refine e_steps 2 (s' := (56, [some (.inr (.inr (some (9, 0)))), some (.inl v11)], [.inl 8, .inl v11], m12)) rfl ?_
        refine e_if (s1 := (101, [some (.inr (.inr (some (9, 0)))), some (.inl v11)], [], m12)) (s2 := (59, [some (.inr (.inr (some (9, 0)))), some (.inl v11)], [], m12)) rfl hres (fun hc hres => ?_) (fun hc hres => ?_)
        · obtain rfl := Option.some.inj hres
          exact e_mask (L' := [none, none]) rfl (hxl10 _ rfl)
        · refine e_steps 3 (s' := (62, [some (.inr (.inr (some (9, 0)))), some (.inl v11)], [.inl v11, .inl 0, .inr (.inr (some (9, 0)))], m12)) rfl ?_
          obtain ⟨r13, m14, hv, hres⟩ := mm_b2_some hres
          refine e_call0 (pc := 65) (L := [some (.inr (.inr (some (9, 0)))), some (.inl v11)]) (st := []) (m' := m14) (v := some (.inl r13)) rfl (k_X4_dealFrom 16 d (by omega) 0 v11 _ _ hv) ?_
          show mm_E (d + 1) 142 (65, [some (.inr (.inr (some (9, 0)))), some (.inl v11)], [.inl r13], m14) (.inl (some (.inl r.1)), r.2, 0, 0)
          refine e_if (s1 := (95, [some (.inr (.inr (some (9, 0)))), some (.inl v11)], [], m14)) (s2 := (68, [some (.inr (.inr (some (9, 0)))), some (.inl v11)], [], m14)) rfl hres (fun hc hres => ?_) (fun hc hres => ?_)
          · refine e_steps 1 (s' := (98, [some (.inr (.inr (some (9, 0)))), some (.inl (v11 + 1))], [], m14)) rfl ?_
            refine e_let (fun (v15 : Int32) => (98, [some (.inr (.inr (some (9, 0)))), some (.inl v15)], [], m14)) hres (fun v15 hres => ?_)
            refine e_steps 1 (s' := (53, [some (.inr (.inr (some (9, 0)))), some (.inl v15)], [], m14)) rfl ?_
            obtain rfl := Option.some.inj hres
            exact e_mask (L' := [some (.inr (.inr (some (9, 0)))), some (.inl v15)]) rfl (hcl10 _ rfl)
          · obtain rfl := Option.some.inj hres
            exact e_mask (L' := [some (.inr (.inr (some (9, 0)))), some (.inl v11)]) rfl (hxl10 _ rfl)
  · obtain ⟨v2, m3⟩ := s
    show mm_E (d + 1) 142 (2, [some (.inr (.inr (some (9, 0)))), some (.inl v2)], [], m3) (.inl (some (.inl r.1)), r.2, 0, 0)
    refine e_steps 3 (s' := (7, [some (.inr (.inr (some (9, 0)))), some (.inl v2)], [.inl (m3 9 0 8), .inl v2], m3)) rfl ?_
    refine e_if (s1 := (51, [some (.inr (.inr (some (9, 0)))), some (.inl v2)], [], m3)) (s2 := (10, [some (.inr (.inr (some (9, 0)))), some (.inl v2)], [], m3)) rfl hres (fun hc hres => ?_) (fun hc hres => ?_)
    · obtain rfl := Option.some.inj hres
      exact e_mask (L' := [some (.inr (.inr (some (9, 0)))), none]) rfl (hxl1 _ rfl)
    · refine e_steps 4 (s' := (16, [some (.inr (.inr (some (9, 0)))), some (.inl v2)], [.inl v2, .inr (.inr (some (57, 0))), .inr (.inr (some (9, 0)))], m3)) rfl ?_
      refine e_gd (s1 := (17, [some (.inr (.inr (some (9, 0)))), some (.inl v2)], [.inl (m3 57 0 v2.toNatClampNeg), .inr (.inr (some (9, 0)))], m3)) rfl hres (fun hc hres => ?_)
      refine e_steps 3 (s' := (22, [some (.inr (.inr (some (9, 0)))), some (.inl v2)], [.inl v2, .inr (.inr (some (58, 0))), .inl (m3 57 0 v2.toNatClampNeg), .inr (.inr (some (9, 0)))], m3)) rfl ?_
      refine e_gd (s1 := (23, [some (.inr (.inr (some (9, 0)))), some (.inl v2)], [.inl (m3 58 0 v2.toNatClampNeg), .inl (m3 57 0 v2.toNatClampNeg), .inr (.inr (some (9, 0)))], m3)) rfl hres (fun hc hres => ?_)
      refine e_steps 1 (s' := (24, [some (.inr (.inr (some (9, 0)))), some (.inl v2)], [.inl 0, .inl (m3 58 0 v2.toNatClampNeg), .inl (m3 57 0 v2.toNatClampNeg), .inr (.inr (some (9, 0)))], m3)) rfl ?_
      obtain ⟨r4, m5, hv, hres⟩ := mm_b2_some hres
      refine e_call0 (pc := 27) (L := [some (.inr (.inr (some (9, 0)))), some (.inl v2)]) (st := []) (m' := m5) (v := some (.inl r4)) rfl (k_X4_findLeast d (by omega) (m3 57 0 v2.toNatClampNeg) (m3 58 0 v2.toNatClampNeg) 0 _ _ hv) ?_
      show mm_E (d + 1) 142 (27, [some (.inr (.inr (some (9, 0)))), some (.inl v2)], [.inl r4], m5) (.inl (some (.inl r.1)), r.2, 0, 0)
      refine e_if (s1 := (32, [some (.inr (.inr (some (9, 0)))), some (.inl v2)], [], m5)) (s2 := (30, [some (.inr (.inr (some (9, 0)))), some (.inl v2)], [], m5)) rfl hres (fun hc hres => ?_) (fun hc hres => ?_)
      · refine e_steps 6 (s' := (44, [some (.inr (.inr (some (9, 0)))), some (.inl v2)], [.inl (m5 10 1 3), .inl v2, .inr (.inr (some (59, 0)))], m5)) rfl ?_
        refine e_gd (s1 := (45, [some (.inr (.inr (some (9, 0)))), some (.inl v2)], [], (mm_w m5 59 0 v2.toNatClampNeg (m5 10 1 3)))) rfl hres (fun hc hres => ?_)
        refine e_let (fun (m6 : mm_M) => (45, [some (.inr (.inr (some (9, 0)))), some (.inl v2)], [], m6)) hres (fun m6 hres => ?_)
        refine e_steps 1 (s' := (48, [some (.inr (.inr (some (9, 0)))), some (.inl (v2 + 1))], [], m6)) rfl ?_
        refine e_let (fun (v7 : Int32) => (48, [some (.inr (.inr (some (9, 0)))), some (.inl v7)], [], m6)) hres (fun v7 hres => ?_)
        refine e_steps 1 (s' := (2, [some (.inr (.inr (some (9, 0)))), some (.inl v7)], [], m6)) rfl ?_
        obtain rfl := Option.some.inj hres
        exact e_mask (L' := [some (.inr (.inr (some (9, 0)))), some (.inl v7)]) rfl (hcl1 _ rfl)
      · obtain rfl := Option.some.inj hres
        exact e_mask (L' := [none, none]) rfl (hxl1 _ rfl)
/-- GlassThreads$Net.isJoined(III)Z -/
def f_X4_isJoined (a1 : Int32) (a2 : Int32) (a3 : Int32) (m : mm_M) : Option (Int32) :=
mm_let (1 <<< (a1 &&& 31)) fun v1 =>
(mm_b1 (mm_loop (σ := Int32 × Int32) (ρ := (Int32)) (fun (s : Int32 × Int32) => match s with
| (v3, v4) => (if 8 ≤ v4 then (some (.inr v3))
else ((mm_b1 (mm_loop (σ := Int32 × Int32) (ρ := (Int32)) (fun (s : Int32 × Int32) => match s with
| (v6, v7) => (if (m 9 0 5) ≤ v7 then (some (.inr v6))
else (if mm_in v7 10 then (
if mm_in v7 10 then (
mm_let ((1 <<< ((m 52 0 v7.toNatClampNeg) &&& 31)) ||| (1 <<< ((m 53 0 v7.toNatClampNeg) &&& 31))) fun v8 =>
if ((a3 >>> (v7 &&& 31)) &&& 1) ≠ 0 then (mm_let (v7 + 1) fun v9 =>
some (.inl (v6, v9)))
else (if (v6 &&& v8) = 0 then (mm_let (v7 + 1) fun v10 =>
some (.inl (v6, v10)))
else (mm_let (v6 ||| v8) fun v11 =>
mm_let (v7 + 1) fun v12 =>
some (.inl (v11, v12))))) else none) else none) : Option ((Int32 × Int32) ⊕ ((Int32))))) mm_fu (v3, 0)) fun v13 =>
mm_let (v4 + 1) fun v14 =>
some (.inl (v13, v14)))) : Option ((Int32 × Int32) ⊕ ((Int32))))) mm_fu (v1, 0)) fun v15 =>
if ((v15 >>> (a2 &&& 31)) &&& 1) ≠ 1 then (some 0)
else (some 1))
set_option maxHeartbeats 4000000 in
set_option maxRecDepth 100000 in
theorem k_X4_isJoined (d : Nat) (hd : 0 ≤ d) (a1 : Int32) (a2 : Int32) (a3 : Int32) (m : mm_M) (r : Int32) (hres : f_X4_isJoined a1 a2 a3 m = some r) : mm_X d 147 [.inr (.inr (some (9, 0))), .inl a1, .inl a2, .inl a3] m (.inl (some (.inl r)), m, 0, 0) := by
  unfold f_X4_isJoined at hres
  show mm_E d 147 (0, [some (.inr (.inr (some (9, 0)))), some (.inl a1), some (.inl a2), some (.inl a3), none, none, none, none], [], m) (.inl (some (.inl r)), m, 0, 0)
  refine e_steps 4 (s' := (5, [some (.inr (.inr (some (9, 0)))), some (.inl a1), some (.inl a2), some (.inl a3), some (.inl (1 <<< (a1 &&& 31))), none, none, none], [], m)) rfl ?_
  refine e_let (fun (v1 : Int32) => (5, [some (.inr (.inr (some (9, 0)))), some (.inl a1), some (.inl a2), some (.inl a3), some (.inl v1), none, none, none], [], m)) hres (fun v1 hres => ?_)
  refine e_steps 2 (s' := (8, [some (.inr (.inr (some (9, 0)))), some (.inl a1), some (.inl a2), some (.inl a3), some (.inl v1), some (.inl 0), none, none], [], m)) rfl ?_
  refine e_mask (L' := [some (.inr (.inr (some (9, 0)))), none, some (.inl a2), some (.inl a3), some (.inl v1), some (.inl 0), none, none]) rfl ?_
  refine e_loopb (φ := fun s => (8, [some (.inr (.inr (some (9, 0)))), none, some (.inl a2), some (.inl a3), some (.inl s.1), some (.inl s.2), none, none], [], m)) (K := fun t => mm_E d 147 (84, [none, none, some (.inl a2), none, some (.inl t), none, none, none], [], m) (.inl (some (.inl r)), m, 0, 0)) hres (fun v15 hres => ?_) (fun s ol2 hres hcl2 hxl2 => ?_)
  · show mm_E d 147 (84, [none, none, some (.inl a2), none, some (.inl v15), none, none, none], [], m) (.inl (some (.inl r)), m, 0, 0)
    refine e_steps 6 (s' := (91, [none, none, some (.inl a2), none, some (.inl v15), none, none, none], [.inl 1, .inl ((v15 >>> (a2 &&& 31)) &&& 1)], m)) rfl ?_
    refine e_if (s1 := (98, [none, none, some (.inl a2), none, some (.inl v15), none, none, none], [], m)) (s2 := (94, [none, none, some (.inl a2), none, some (.inl v15), none, none, none], [], m)) rfl hres (fun hc hres => ?_) (fun hc hres => ?_)
    · refine e_steps 1 (s' := (99, [none, none, some (.inl a2), none, some (.inl v15), none, none, none], [.inl 0], m)) rfl ?_
      refine e_mask (L' := [none, none, none, none, none, none, none, none]) rfl ?_
      obtain rfl := Option.some.inj hres
      exact e_ret rfl rfl
    · refine e_steps 2 (s' := (99, [none, none, some (.inl a2), none, some (.inl v15), none, none, none], [.inl 1], m)) rfl ?_
      refine e_mask (L' := [none, none, none, none, none, none, none, none]) rfl ?_
      obtain rfl := Option.some.inj hres
      exact e_ret rfl rfl
  · obtain ⟨v3, v4⟩ := s
    show mm_E d 147 (8, [some (.inr (.inr (some (9, 0)))), none, some (.inl a2), some (.inl a3), some (.inl v3), some (.inl v4), none, none], [], m) (.inl (some (.inl r)), m, 0, 0)
    refine e_steps 2 (s' := (12, [some (.inr (.inr (some (9, 0)))), none, some (.inl a2), some (.inl a3), some (.inl v3), some (.inl v4), none, none], [.inl 8, .inl v4], m)) rfl ?_
    refine e_if (s1 := (84, [some (.inr (.inr (some (9, 0)))), none, some (.inl a2), some (.inl a3), some (.inl v3), some (.inl v4), none, none], [], m)) (s2 := (15, [some (.inr (.inr (some (9, 0)))), none, some (.inl a2), some (.inl a3), some (.inl v3), some (.inl v4), none, none], [], m)) rfl hres (fun hc hres => ?_) (fun hc hres => ?_)
    · obtain rfl := Option.some.inj hres
      exact e_mask (L' := [none, none, some (.inl a2), none, some (.inl v3), none, none, none]) rfl (hxl2 _ rfl)
    · refine e_steps 2 (s' := (18, [some (.inr (.inr (some (9, 0)))), none, some (.inl a2), some (.inl a3), some (.inl v3), some (.inl v4), some (.inl 0), none], [], m)) rfl ?_
      refine e_mask (L' := [some (.inr (.inr (some (9, 0)))), none, some (.inl a2), some (.inl a3), some (.inl v3), some (.inl v4), some (.inl 0), none]) rfl ?_
      refine e_loopb (φ := fun s => (18, [some (.inr (.inr (some (9, 0)))), none, some (.inl a2), some (.inl a3), some (.inl s.1), some (.inl v4), some (.inl s.2), none], [], m)) (K := fun t => mm_E d 147 (78, [some (.inr (.inr (some (9, 0)))), none, some (.inl a2), some (.inl a3), some (.inl t), some (.inl v4), none, none], [], m) (.inl (some (.inl r)), m, 0, 0)) hres (fun v13 hres => ?_) (fun s ol5 hres hcl5 hxl5 => ?_)
      · show mm_E d 147 (78, [some (.inr (.inr (some (9, 0)))), none, some (.inl a2), some (.inl a3), some (.inl v13), some (.inl v4), none, none], [], m) (.inl (some (.inl r)), m, 0, 0)
        refine e_steps 1 (s' := (81, [some (.inr (.inr (some (9, 0)))), none, some (.inl a2), some (.inl a3), some (.inl v13), some (.inl (v4 + 1)), none, none], [], m)) rfl ?_
        refine e_let (fun (v14 : Int32) => (81, [some (.inr (.inr (some (9, 0)))), none, some (.inl a2), some (.inl a3), some (.inl v13), some (.inl v14), none, none], [], m)) hres (fun v14 hres => ?_)
        refine e_steps 1 (s' := (8, [some (.inr (.inr (some (9, 0)))), none, some (.inl a2), some (.inl a3), some (.inl v13), some (.inl v14), none, none], [], m)) rfl ?_
        obtain rfl := Option.some.inj hres
        exact e_mask (L' := [some (.inr (.inr (some (9, 0)))), none, some (.inl a2), some (.inl a3), some (.inl v13), some (.inl v14), none, none]) rfl (hcl2 _ rfl)
      · obtain ⟨v6, v7⟩ := s
        show mm_E d 147 (18, [some (.inr (.inr (some (9, 0)))), none, some (.inl a2), some (.inl a3), some (.inl v6), some (.inl v4), some (.inl v7), none], [], m) (.inl (some (.inl r)), m, 0, 0)
        refine e_steps 3 (s' := (24, [some (.inr (.inr (some (9, 0)))), none, some (.inl a2), some (.inl a3), some (.inl v6), some (.inl v4), some (.inl v7), none], [.inl (m 9 0 5), .inl v7], m)) rfl ?_
        refine e_if (s1 := (78, [some (.inr (.inr (some (9, 0)))), none, some (.inl a2), some (.inl a3), some (.inl v6), some (.inl v4), some (.inl v7), none], [], m)) (s2 := (27, [some (.inr (.inr (some (9, 0)))), none, some (.inl a2), some (.inl a3), some (.inl v6), some (.inl v4), some (.inl v7), none], [], m)) rfl hres (fun hc hres => ?_) (fun hc hres => ?_)
        · obtain rfl := Option.some.inj hres
          exact e_mask (L' := [some (.inr (.inr (some (9, 0)))), none, some (.inl a2), some (.inl a3), some (.inl v6), some (.inl v4), none, none]) rfl (hxl5 _ rfl)
        · refine e_steps 4 (s' := (34, [some (.inr (.inr (some (9, 0)))), none, some (.inl a2), some (.inl a3), some (.inl v6), some (.inl v4), some (.inl v7), none], [.inl v7, .inr (.inr (some (52, 0))), .inl 1], m)) rfl ?_
          refine e_gd (s1 := (35, [some (.inr (.inr (some (9, 0)))), none, some (.inl a2), some (.inl a3), some (.inl v6), some (.inl v4), some (.inl v7), none], [.inl (m 52 0 v7.toNatClampNeg), .inl 1], m)) rfl hres (fun hc hres => ?_)
          refine e_steps 5 (s' := (43, [some (.inr (.inr (some (9, 0)))), none, some (.inl a2), some (.inl a3), some (.inl v6), some (.inl v4), some (.inl v7), none], [.inl v7, .inr (.inr (some (53, 0))), .inl 1, .inl (1 <<< ((m 52 0 v7.toNatClampNeg) &&& 31))], m)) rfl ?_
          refine e_gd (s1 := (44, [some (.inr (.inr (some (9, 0)))), none, some (.inl a2), some (.inl a3), some (.inl v6), some (.inl v4), some (.inl v7), none], [.inl (m 53 0 v7.toNatClampNeg), .inl 1, .inl (1 <<< ((m 52 0 v7.toNatClampNeg) &&& 31))], m)) rfl hres (fun hc hres => ?_)
          refine e_steps 3 (s' := (48, [some (.inr (.inr (some (9, 0)))), none, some (.inl a2), some (.inl a3), some (.inl v6), some (.inl v4), some (.inl v7), some (.inl ((1 <<< ((m 52 0 v7.toNatClampNeg) &&& 31)) ||| (1 <<< ((m 53 0 v7.toNatClampNeg) &&& 31))))], [], m)) rfl ?_
          refine e_let (fun (v8 : Int32) => (48, [some (.inr (.inr (some (9, 0)))), none, some (.inl a2), some (.inl a3), some (.inl v6), some (.inl v4), some (.inl v7), some (.inl v8)], [], m)) hres (fun v8 hres => ?_)
          refine e_steps 5 (s' := (54, [some (.inr (.inr (some (9, 0)))), none, some (.inl a2), some (.inl a3), some (.inl v6), some (.inl v4), some (.inl v7), some (.inl v8)], [.inl ((a3 >>> (v7 &&& 31)) &&& 1)], m)) rfl ?_
          refine e_if (s1 := (72, [some (.inr (.inr (some (9, 0)))), none, some (.inl a2), some (.inl a3), some (.inl v6), some (.inl v4), some (.inl v7), some (.inl v8)], [], m)) (s2 := (57, [some (.inr (.inr (some (9, 0)))), none, some (.inl a2), some (.inl a3), some (.inl v6), some (.inl v4), some (.inl v7), some (.inl v8)], [], m)) rfl hres (fun hc hres => ?_) (fun hc hres => ?_)
          · refine e_mask (L' := [some (.inr (.inr (some (9, 0)))), none, some (.inl a2), some (.inl a3), some (.inl v6), some (.inl v4), some (.inl v7), none]) rfl ?_
            refine e_steps 1 (s' := (75, [some (.inr (.inr (some (9, 0)))), none, some (.inl a2), some (.inl a3), some (.inl v6), some (.inl v4), some (.inl (v7 + 1)), none], [], m)) rfl ?_
            refine e_let (fun (v9 : Int32) => (75, [some (.inr (.inr (some (9, 0)))), none, some (.inl a2), some (.inl a3), some (.inl v6), some (.inl v4), some (.inl v9), none], [], m)) hres (fun v9 hres => ?_)
            refine e_steps 1 (s' := (18, [some (.inr (.inr (some (9, 0)))), none, some (.inl a2), some (.inl a3), some (.inl v6), some (.inl v4), some (.inl v9), none], [], m)) rfl ?_
            obtain rfl := Option.some.inj hres
            exact e_mask (L' := [some (.inr (.inr (some (9, 0)))), none, some (.inl a2), some (.inl a3), some (.inl v6), some (.inl v4), some (.inl v9), none]) rfl (hcl5 _ rfl)
          · refine e_steps 3 (s' := (62, [some (.inr (.inr (some (9, 0)))), none, some (.inl a2), some (.inl a3), some (.inl v6), some (.inl v4), some (.inl v7), some (.inl v8)], [.inl (v6 &&& v8)], m)) rfl ?_
            refine e_if (s1 := (72, [some (.inr (.inr (some (9, 0)))), none, some (.inl a2), some (.inl a3), some (.inl v6), some (.inl v4), some (.inl v7), some (.inl v8)], [], m)) (s2 := (65, [some (.inr (.inr (some (9, 0)))), none, some (.inl a2), some (.inl a3), some (.inl v6), some (.inl v4), some (.inl v7), some (.inl v8)], [], m)) rfl hres (fun hc hres => ?_) (fun hc hres => ?_)
            · refine e_mask (L' := [some (.inr (.inr (some (9, 0)))), none, some (.inl a2), some (.inl a3), some (.inl v6), some (.inl v4), some (.inl v7), none]) rfl ?_
              refine e_steps 1 (s' := (75, [some (.inr (.inr (some (9, 0)))), none, some (.inl a2), some (.inl a3), some (.inl v6), some (.inl v4), some (.inl (v7 + 1)), none], [], m)) rfl ?_
              refine e_let (fun (v10 : Int32) => (75, [some (.inr (.inr (some (9, 0)))), none, some (.inl a2), some (.inl a3), some (.inl v6), some (.inl v4), some (.inl v10), none], [], m)) hres (fun v10 hres => ?_)
              refine e_steps 1 (s' := (18, [some (.inr (.inr (some (9, 0)))), none, some (.inl a2), some (.inl a3), some (.inl v6), some (.inl v4), some (.inl v10), none], [], m)) rfl ?_
              obtain rfl := Option.some.inj hres
              exact e_mask (L' := [some (.inr (.inr (some (9, 0)))), none, some (.inl a2), some (.inl a3), some (.inl v6), some (.inl v4), some (.inl v10), none]) rfl (hcl5 _ rfl)
            · refine e_steps 4 (s' := (72, [some (.inr (.inr (some (9, 0)))), none, some (.inl a2), some (.inl a3), some (.inl (v6 ||| v8)), some (.inl v4), some (.inl v7), some (.inl v8)], [], m)) rfl ?_
              refine e_let (fun (v11 : Int32) => (72, [some (.inr (.inr (some (9, 0)))), none, some (.inl a2), some (.inl a3), some (.inl v11), some (.inl v4), some (.inl v7), some (.inl v8)], [], m)) hres (fun v11 hres => ?_)
              refine e_mask (L' := [some (.inr (.inr (some (9, 0)))), none, some (.inl a2), some (.inl a3), some (.inl v11), some (.inl v4), some (.inl v7), none]) rfl ?_
              refine e_steps 1 (s' := (75, [some (.inr (.inr (some (9, 0)))), none, some (.inl a2), some (.inl a3), some (.inl v11), some (.inl v4), some (.inl (v7 + 1)), none], [], m)) rfl ?_
              refine e_let (fun (v12 : Int32) => (75, [some (.inr (.inr (some (9, 0)))), none, some (.inl a2), some (.inl a3), some (.inl v11), some (.inl v4), some (.inl v12), none], [], m)) hres (fun v12 hres => ?_)
              refine e_steps 1 (s' := (18, [some (.inr (.inr (some (9, 0)))), none, some (.inl a2), some (.inl a3), some (.inl v11), some (.inl v4), some (.inl v12), none], [], m)) rfl ?_
              obtain rfl := Option.some.inj hres
              exact e_mask (L' := [some (.inr (.inr (some (9, 0)))), none, some (.inl a2), some (.inl a3), some (.inl v11), some (.inl v4), some (.inl v12), none]) rfl (hcl5 _ rfl)
/-- GlassThreads$Net.lostBy(I)I -/
def f_X4_lostBy (a1 : Int32) (m : mm_M) : Option (Int32) :=
(mm_b1 (mm_loop (σ := Int32 × Int32) (ρ := (Int32)) (fun (s : Int32 × Int32) => match s with
| (v2, v3) => (if (m 9 0 8) ≤ v3 then (some (.inr v2))
else (if mm_in v3 6 then (
if mm_in v3 6 then (
mm_b1 (f_X4_isJoined (m 57 0 v3.toNatClampNeg) (m 58 0 v3.toNatClampNeg) 0 m) fun r4 =>
if r4 = 0 then (mm_let (v3 + 1) fun v5 =>
some (.inl (v2, v5)))
else (if mm_in v3 6 then (
if mm_in v3 6 then (
mm_b1 (f_X4_isJoined (m 57 0 v3.toNatClampNeg) (m 58 0 v3.toNatClampNeg) a1 m) fun r6 =>
if r6 ≠ 0 then (mm_let (v3 + 1) fun v7 =>
some (.inl (v2, v7)))
else (mm_let (v2 ||| (1 <<< (v3 &&& 31))) fun v8 =>
mm_let (v3 + 1) fun v9 =>
some (.inl (v8, v9)))) else none) else none)) else none) else none) : Option ((Int32 × Int32) ⊕ ((Int32))))) mm_fu (0, 0)) fun v10 =>
some v10)
set_option maxHeartbeats 4000000 in
set_option maxRecDepth 100000 in
theorem k_X4_lostBy (d : Nat) (hd : 1 ≤ d) (a1 : Int32) (m : mm_M) (r : Int32) (hres : f_X4_lostBy a1 m = some r) : mm_X d 146 [.inr (.inr (some (9, 0))), .inl a1] m (.inl (some (.inl r)), m, 0, 0) := by
  unfold f_X4_lostBy at hres
  obtain ⟨d, rfl⟩ : ∃ e, d = e + 1 := ⟨d - 1, by omega⟩
  show mm_E (d + 1) 146 (0, [some (.inr (.inr (some (9, 0)))), some (.inl a1), none, none], [], m) (.inl (some (.inl r)), m, 0, 0)
  refine e_steps 4 (s' := (4, [some (.inr (.inr (some (9, 0)))), some (.inl a1), some (.inl 0), some (.inl 0)], [], m)) rfl ?_
  refine e_mask (L' := [some (.inr (.inr (some (9, 0)))), some (.inl a1), some (.inl 0), some (.inl 0)]) rfl ?_
  refine e_loopb (φ := fun s => (4, [some (.inr (.inr (some (9, 0)))), some (.inl a1), some (.inl s.1), some (.inl s.2)], [], m)) (K := fun t => mm_E (d + 1) 146 (64, [none, none, some (.inl t), none], [], m) (.inl (some (.inl r)), m, 0, 0)) hres (fun v10 hres => ?_) (fun s ol1 hres hcl1 hxl1 => ?_)
  · show mm_E (d + 1) 146 (64, [none, none, some (.inl v10), none], [], m) (.inl (some (.inl r)), m, 0, 0)
    refine e_steps 1 (s' := (65, [none, none, some (.inl v10), none], [.inl v10], m)) rfl ?_
    obtain rfl := Option.some.inj hres
    exact e_ret rfl rfl
  · obtain ⟨v2, v3⟩ := s
    show mm_E (d + 1) 146 (4, [some (.inr (.inr (some (9, 0)))), some (.inl a1), some (.inl v2), some (.inl v3)], [], m) (.inl (some (.inl r)), m, 0, 0)
    refine e_steps 3 (s' := (9, [some (.inr (.inr (some (9, 0)))), some (.inl a1), some (.inl v2), some (.inl v3)], [.inl (m 9 0 8), .inl v3], m)) rfl ?_
    refine e_if (s1 := (64, [some (.inr (.inr (some (9, 0)))), some (.inl a1), some (.inl v2), some (.inl v3)], [], m)) (s2 := (12, [some (.inr (.inr (some (9, 0)))), some (.inl a1), some (.inl v2), some (.inl v3)], [], m)) rfl hres (fun hc hres => ?_) (fun hc hres => ?_)
    · obtain rfl := Option.some.inj hres
      exact e_mask (L' := [none, none, some (.inl v2), none]) rfl (hxl1 _ rfl)
    · refine e_steps 4 (s' := (18, [some (.inr (.inr (some (9, 0)))), some (.inl a1), some (.inl v2), some (.inl v3)], [.inl v3, .inr (.inr (some (57, 0))), .inr (.inr (some (9, 0)))], m)) rfl ?_
      refine e_gd (s1 := (19, [some (.inr (.inr (some (9, 0)))), some (.inl a1), some (.inl v2), some (.inl v3)], [.inl (m 57 0 v3.toNatClampNeg), .inr (.inr (some (9, 0)))], m)) rfl hres (fun hc hres => ?_)
      refine e_steps 3 (s' := (24, [some (.inr (.inr (some (9, 0)))), some (.inl a1), some (.inl v2), some (.inl v3)], [.inl v3, .inr (.inr (some (58, 0))), .inl (m 57 0 v3.toNatClampNeg), .inr (.inr (some (9, 0)))], m)) rfl ?_
      refine e_gd (s1 := (25, [some (.inr (.inr (some (9, 0)))), some (.inl a1), some (.inl v2), some (.inl v3)], [.inl (m 58 0 v3.toNatClampNeg), .inl (m 57 0 v3.toNatClampNeg), .inr (.inr (some (9, 0)))], m)) rfl hres (fun hc hres => ?_)
      refine e_steps 1 (s' := (26, [some (.inr (.inr (some (9, 0)))), some (.inl a1), some (.inl v2), some (.inl v3)], [.inl 0, .inl (m 58 0 v3.toNatClampNeg), .inl (m 57 0 v3.toNatClampNeg), .inr (.inr (some (9, 0)))], m)) rfl ?_
      obtain ⟨r4, hv, hres⟩ := mm_b1_some hres
      refine e_call0 (pc := 29) (L := [some (.inr (.inr (some (9, 0)))), some (.inl a1), some (.inl v2), some (.inl v3)]) (st := []) (m' := m) (v := some (.inl r4)) rfl (k_X4_isJoined d (by omega) (m 57 0 v3.toNatClampNeg) (m 58 0 v3.toNatClampNeg) 0 _ _ hv) ?_
      show mm_E (d + 1) 146 (29, [some (.inr (.inr (some (9, 0)))), some (.inl a1), some (.inl v2), some (.inl v3)], [.inl r4], m) (.inl (some (.inl r)), m, 0, 0)
      refine e_if (s1 := (58, [some (.inr (.inr (some (9, 0)))), some (.inl a1), some (.inl v2), some (.inl v3)], [], m)) (s2 := (32, [some (.inr (.inr (some (9, 0)))), some (.inl a1), some (.inl v2), some (.inl v3)], [], m)) rfl hres (fun hc hres => ?_) (fun hc hres => ?_)
      · refine e_steps 1 (s' := (61, [some (.inr (.inr (some (9, 0)))), some (.inl a1), some (.inl v2), some (.inl (v3 + 1))], [], m)) rfl ?_
        refine e_let (fun (v5 : Int32) => (61, [some (.inr (.inr (some (9, 0)))), some (.inl a1), some (.inl v2), some (.inl v5)], [], m)) hres (fun v5 hres => ?_)
        refine e_steps 1 (s' := (4, [some (.inr (.inr (some (9, 0)))), some (.inl a1), some (.inl v2), some (.inl v5)], [], m)) rfl ?_
        obtain rfl := Option.some.inj hres
        exact e_mask (L' := [some (.inr (.inr (some (9, 0)))), some (.inl a1), some (.inl v2), some (.inl v5)]) rfl (hcl1 _ rfl)
      · refine e_steps 4 (s' := (38, [some (.inr (.inr (some (9, 0)))), some (.inl a1), some (.inl v2), some (.inl v3)], [.inl v3, .inr (.inr (some (57, 0))), .inr (.inr (some (9, 0)))], m)) rfl ?_
        refine e_gd (s1 := (39, [some (.inr (.inr (some (9, 0)))), some (.inl a1), some (.inl v2), some (.inl v3)], [.inl (m 57 0 v3.toNatClampNeg), .inr (.inr (some (9, 0)))], m)) rfl hres (fun hc hres => ?_)
        refine e_steps 3 (s' := (44, [some (.inr (.inr (some (9, 0)))), some (.inl a1), some (.inl v2), some (.inl v3)], [.inl v3, .inr (.inr (some (58, 0))), .inl (m 57 0 v3.toNatClampNeg), .inr (.inr (some (9, 0)))], m)) rfl ?_
        refine e_gd (s1 := (45, [some (.inr (.inr (some (9, 0)))), some (.inl a1), some (.inl v2), some (.inl v3)], [.inl (m 58 0 v3.toNatClampNeg), .inl (m 57 0 v3.toNatClampNeg), .inr (.inr (some (9, 0)))], m)) rfl hres (fun hc hres => ?_)
        refine e_steps 1 (s' := (46, [some (.inr (.inr (some (9, 0)))), some (.inl a1), some (.inl v2), some (.inl v3)], [.inl a1, .inl (m 58 0 v3.toNatClampNeg), .inl (m 57 0 v3.toNatClampNeg), .inr (.inr (some (9, 0)))], m)) rfl ?_
        obtain ⟨r6, hv, hres⟩ := mm_b1_some hres
        refine e_call0 (pc := 49) (L := [some (.inr (.inr (some (9, 0)))), some (.inl a1), some (.inl v2), some (.inl v3)]) (st := []) (m' := m) (v := some (.inl r6)) rfl (k_X4_isJoined d (by omega) (m 57 0 v3.toNatClampNeg) (m 58 0 v3.toNatClampNeg) a1 _ _ hv) ?_
        show mm_E (d + 1) 146 (49, [some (.inr (.inr (some (9, 0)))), some (.inl a1), some (.inl v2), some (.inl v3)], [.inl r6], m) (.inl (some (.inl r)), m, 0, 0)
        refine e_if (s1 := (58, [some (.inr (.inr (some (9, 0)))), some (.inl a1), some (.inl v2), some (.inl v3)], [], m)) (s2 := (52, [some (.inr (.inr (some (9, 0)))), some (.inl a1), some (.inl v2), some (.inl v3)], [], m)) rfl hres (fun hc hres => ?_) (fun hc hres => ?_)
        · refine e_steps 1 (s' := (61, [some (.inr (.inr (some (9, 0)))), some (.inl a1), some (.inl v2), some (.inl (v3 + 1))], [], m)) rfl ?_
          refine e_let (fun (v7 : Int32) => (61, [some (.inr (.inr (some (9, 0)))), some (.inl a1), some (.inl v2), some (.inl v7)], [], m)) hres (fun v7 hres => ?_)
          refine e_steps 1 (s' := (4, [some (.inr (.inr (some (9, 0)))), some (.inl a1), some (.inl v2), some (.inl v7)], [], m)) rfl ?_
          obtain rfl := Option.some.inj hres
          exact e_mask (L' := [some (.inr (.inr (some (9, 0)))), some (.inl a1), some (.inl v2), some (.inl v7)]) rfl (hcl1 _ rfl)
        · refine e_steps 6 (s' := (58, [some (.inr (.inr (some (9, 0)))), some (.inl a1), some (.inl (v2 ||| (1 <<< (v3 &&& 31)))), some (.inl v3)], [], m)) rfl ?_
          refine e_let (fun (v8 : Int32) => (58, [some (.inr (.inr (some (9, 0)))), some (.inl a1), some (.inl v8), some (.inl v3)], [], m)) hres (fun v8 hres => ?_)
          refine e_steps 1 (s' := (61, [some (.inr (.inr (some (9, 0)))), some (.inl a1), some (.inl v8), some (.inl (v3 + 1))], [], m)) rfl ?_
          refine e_let (fun (v9 : Int32) => (61, [some (.inr (.inr (some (9, 0)))), some (.inl a1), some (.inl v8), some (.inl v9)], [], m)) hres (fun v9 hres => ?_)
          refine e_steps 1 (s' := (4, [some (.inr (.inr (some (9, 0)))), some (.inl a1), some (.inl v8), some (.inl v9)], [], m)) rfl ?_
          obtain rfl := Option.some.inj hres
          exact e_mask (L' := [some (.inr (.inr (some (9, 0)))), some (.inl a1), some (.inl v8), some (.inl v9)]) rfl (hcl1 _ rfl)
/-- java/lang/Integer.bitCount(I)I -/
def f_J_bitCount (a0 : Int32) (m : mm_M) : Option (Int32) :=
mm_let (a0 - ((mm_ushr a0 1) &&& 1431655765)) fun v1 =>
mm_let ((v1 &&& 858993459) + ((mm_ushr v1 2) &&& 858993459)) fun v2 =>
mm_let ((v2 + (mm_ushr v2 4)) &&& 252645135) fun v3 =>
mm_let (v3 + (mm_ushr v3 8)) fun v4 =>
mm_let (v4 + (mm_ushr v4 16)) fun v5 =>
some (v5 &&& 63)
set_option maxHeartbeats 4000000 in
set_option maxRecDepth 100000 in
theorem k_J_bitCount (d : Nat) (hd : 0 ≤ d) (a0 : Int32) (m : mm_M) (r : Int32) (hres : f_J_bitCount a0 m = some r) : mm_X d 290 [.inl a0] m (.inl (some (.inl r)), m, 0, 0) := by
  unfold f_J_bitCount at hres
  show mm_E d 290 (0, [some (.inl a0)], [], m) (.inl (some (.inl r)), m, 0, 0)
  refine e_steps 8 (s' := (10, [some (.inl (a0 - ((mm_ushr a0 1) &&& 1431655765)))], [], m)) rfl ?_
  refine e_let (fun (v1 : Int32) => (10, [some (.inl v1)], [], m)) hres (fun v1 hres => ?_)
  refine e_steps 10 (s' := (24, [some (.inl ((v1 &&& 858993459) + ((mm_ushr v1 2) &&& 858993459)))], [], m)) rfl ?_
  refine e_let (fun (v2 : Int32) => (24, [some (.inl v2)], [], m)) hres (fun v2 hres => ?_)
  refine e_steps 8 (s' := (34, [some (.inl ((v2 + (mm_ushr v2 4)) &&& 252645135))], [], m)) rfl ?_
  refine e_let (fun (v3 : Int32) => (34, [some (.inl v3)], [], m)) hres (fun v3 hres => ?_)
  refine e_steps 6 (s' := (41, [some (.inl (v3 + (mm_ushr v3 8)))], [], m)) rfl ?_
  refine e_let (fun (v4 : Int32) => (41, [some (.inl v4)], [], m)) hres (fun v4 hres => ?_)
  refine e_steps 6 (s' := (48, [some (.inl (v4 + (mm_ushr v4 16)))], [], m)) rfl ?_
  refine e_let (fun (v5 : Int32) => (48, [some (.inl v5)], [], m)) hres (fun v5 hres => ?_)
  refine e_steps 3 (s' := (52, [some (.inl v5)], [.inl (v5 &&& 63)], m)) rfl ?_
  obtain rfl := Option.some.inj hres
  exact e_ret rfl rfl
/-- GlassThreads$Net.worstOf(I)I -/
def f_X4_worstOf (a1 : Int32) (m : mm_M) : Option (Int32) :=
(mm_b1 (mm_loop (σ := Int32 × Int32 × Int32) (ρ := (Int32)) (fun (s : Int32 × Int32 × Int32) => match s with
| (v2, v3, v4) => (if (m 9 0 5) ≤ v4 then (some (.inr v2))
else (mm_let (fun (w5 : Int32) => (if a1 ≠ 1 then (mm_let (m 9 0 5) fun v7 =>
(mm_b1 (mm_loop (σ := Int32 × Int32 × Int32) (ρ := (Int32 × Int32)) (fun (s : Int32 × Int32 × Int32) => match s with
| (v9, v10, v11) => (if v7 ≤ v11 then (some (.inr (v9, v10)))
else (mm_let ((1 <<< (v4 &&& 31)) ||| (1 <<< (v11 &&& 31))) fun v12 =>
mm_b1 (f_X4_lostBy v12 m) fun r13 =>
mm_b1 (f_J_bitCount r13 m) fun r14 =>
if r14 ≤ v10 then (mm_let (v11 + 1) fun v15 =>
some (.inl (v9, v10, v15)))
else (mm_let (v11 + 1) fun v16 =>
some (.inl (v12, r14, v16)))) : Option ((Int32 × Int32 × Int32) ⊕ ((Int32 × Int32))))) mm_fu (v2, v3, w5)) fun t => match t with
| (v17, v18) => mm_let (v4 + 1) fun v19 =>
some (.inl (v17, v18, v19))))
else (mm_let (v4 + 1) fun v20 =>
(mm_b1 (mm_loop (σ := Int32 × Int32 × Int32) (ρ := (Int32 × Int32)) (fun (s : Int32 × Int32 × Int32) => match s with
| (v22, v23, v24) => (if v20 ≤ v24 then (some (.inr (v22, v23)))
else (mm_let ((1 <<< (v4 &&& 31)) ||| (1 <<< (v24 &&& 31))) fun v25 =>
mm_b1 (f_X4_lostBy v25 m) fun r26 =>
mm_b1 (f_J_bitCount r26 m) fun r27 =>
if r27 ≤ v23 then (mm_let (v24 + 1) fun v28 =>
some (.inl (v22, v23, v28)))
else (mm_let (v24 + 1) fun v29 =>
some (.inl (v25, r27, v29)))) : Option ((Int32 × Int32 × Int32) ⊕ ((Int32 × Int32))))) mm_fu (v2, v3, w5)) fun t => match t with
| (v30, v31) => mm_let (v4 + 1) fun v32 =>
some (.inl (v30, v31, v32)))) : Option ((Int32 × Int32 × Int32) ⊕ ((Int32))))) fun k6 =>
if a1 ≠ 1 then (k6 (v4 + 1))
else (k6 v4)) : Option ((Int32 × Int32 × Int32) ⊕ ((Int32))))) mm_fu (0, 0, 0)) fun v33 =>
some v33)
set_option maxHeartbeats 4000000 in
set_option maxRecDepth 100000 in
theorem k_X4_worstOf (d : Nat) (hd : 2 ≤ d) (a1 : Int32) (m : mm_M) (r : Int32) (hres : f_X4_worstOf a1 m = some r) : mm_X d 148 [.inr (.inr (some (9, 0))), .inl a1] m (.inl (some (.inl r)), m, 0, 0) := by
  unfold f_X4_worstOf at hres
  obtain ⟨d, rfl⟩ : ∃ e, d = e + 1 := ⟨d - 1, by omega⟩
  show mm_E (d + 1) 148 (0, [some (.inr (.inr (some (9, 0)))), some (.inl a1), none, none, none, none, none, none, none, none], [], m) (.inl (some (.inl r)), m, 0, 0)
  refine e_steps 6 (s' := (7, [some (.inr (.inr (some (9, 0)))), some (.inl a1), some (.inl 0), some (.inl 0), some (.inl 0), none, none, none, none, none], [], m)) rfl ?_
  refine e_mask (L' := [some (.inr (.inr (some (9, 0)))), some (.inl a1), some (.inl 0), some (.inl 0), some (.inl 0), none, none, none, none, none]) rfl ?_
  refine e_loopb (φ := fun s => (7, [some (.inr (.inr (some (9, 0)))), some (.inl a1), some (.inl s.1), some (.inl s.2.1), some (.inl s.2.2), none, none, none, none, none], [], m)) (K := fun t => mm_E (d + 1) 148 (107, [none, none, some (.inl t), none, none, none, none, none, none, none], [], m) (.inl (some (.inl r)), m, 0, 0)) hres (fun v33 hres => ?_) (fun s ol1 hres hcl1 hxl1 => ?_)
  · show mm_E (d + 1) 148 (107, [none, none, some (.inl v33), none, none, none, none, none, none, none], [], m) (.inl (some (.inl r)), m, 0, 0)
    refine e_steps 1 (s' := (108, [none, none, some (.inl v33), none, none, none, none, none, none, none], [.inl v33], m)) rfl ?_
    obtain rfl := Option.some.inj hres
    exact e_ret rfl rfl
  · obtain ⟨v2, v3, v4⟩ := s
    show mm_E (d + 1) 148 (7, [some (.inr (.inr (some (9, 0)))), some (.inl a1), some (.inl v2), some (.inl v3), some (.inl v4), none, none, none, none, none], [], m) (.inl (some (.inl r)), m, 0, 0)
    refine e_steps 3 (s' := (13, [some (.inr (.inr (some (9, 0)))), some (.inl a1), some (.inl v2), some (.inl v3), some (.inl v4), none, none, none, none, none], [.inl (m 9 0 5), .inl v4], m)) rfl ?_
    refine e_if (s1 := (107, [some (.inr (.inr (some (9, 0)))), some (.inl a1), some (.inl v2), some (.inl v3), some (.inl v4), none, none, none, none, none], [], m)) (s2 := (16, [some (.inr (.inr (some (9, 0)))), some (.inl a1), some (.inl v2), some (.inl v3), some (.inl v4), none, none, none, none, none], [], m)) rfl hres (fun hc hres => ?_) (fun hc hres => ?_)
    · obtain rfl := Option.some.inj hres
      exact e_mask (L' := [none, none, some (.inl v2), none, none, none, none, none, none, none]) rfl (hxl1 _ rfl)
    · refine e_steps 2 (s' := (18, [some (.inr (.inr (some (9, 0)))), some (.inl a1), some (.inl v2), some (.inl v3), some (.inl v4), none, none, none, none, none], [.inl 1, .inl a1], m)) rfl ?_
      refine e_join (fun k6 => ∀ (w5 : Int32), k6 w5 = some ol1 → mm_E (d + 1) 148 (30, [some (.inr (.inr (some (9, 0)))), some (.inl a1), some (.inl v2), some (.inl v3), some (.inl v4), none, none, none, none, none], [.inl w5], m) (.inl (some (.inl r)), m, 0, 0)) hres (fun w5 hres => ?_) (fun k6 hk6 hres => ?_)
      · refine e_steps 3 (s' := (34, [some (.inr (.inr (some (9, 0)))), some (.inl a1), some (.inl v2), some (.inl v3), some (.inl v4), some (.inl w5), none, none, none, none], [.inl 1, .inl a1], m)) rfl ?_
        refine e_if (s1 := (44, [some (.inr (.inr (some (9, 0)))), some (.inl a1), some (.inl v2), some (.inl v3), some (.inl v4), some (.inl w5), none, none, none, none], [], m)) (s2 := (37, [some (.inr (.inr (some (9, 0)))), some (.inl a1), some (.inl v2), some (.inl v3), some (.inl v4), some (.inl w5), none, none, none, none], [], m)) rfl hres (fun hc hres => ?_) (fun hc hres => ?_)
        · refine e_steps 3 (s' := (50, [some (.inr (.inr (some (9, 0)))), some (.inl a1), some (.inl v2), some (.inl v3), some (.inl v4), some (.inl w5), some (.inl (m 9 0 5)), none, none, none], [], m)) rfl ?_
          refine e_let (fun (v7 : Int32) => (50, [some (.inr (.inr (some (9, 0)))), some (.inl a1), some (.inl v2), some (.inl v3), some (.inl v4), some (.inl w5), some (.inl v7), none, none, none], [], m)) hres (fun v7 hres => ?_)
          refine e_steps 2 (s' := (54, [some (.inr (.inr (some (9, 0)))), some (.inl a1), some (.inl v2), some (.inl v3), some (.inl v4), some (.inl w5), some (.inl v7), some (.inl w5), none, none], [], m)) rfl ?_
          refine e_mask (L' := [some (.inr (.inr (some (9, 0)))), some (.inl a1), some (.inl v2), some (.inl v3), some (.inl v4), none, some (.inl v7), some (.inl w5), none, none]) rfl ?_
          refine e_loopb (φ := fun s => (54, [some (.inr (.inr (some (9, 0)))), some (.inl a1), some (.inl s.1), some (.inl s.2.1), some (.inl v4), none, some (.inl v7), some (.inl s.2.2), none, none], [], m)) (K := fun t => mm_E (d + 1) 148 (101, [some (.inr (.inr (some (9, 0)))), some (.inl a1), some (.inl t.1), some (.inl t.2), some (.inl v4), none, none, none, none, none], [], m) (.inl (some (.inl r)), m, 0, 0)) hres (fun t hres => ?_) (fun s ol8 hres hcl8 hxl8 => ?_)
          · obtain ⟨v17, v18⟩ := t
            show mm_E (d + 1) 148 (101, [some (.inr (.inr (some (9, 0)))), some (.inl a1), some (.inl v17), some (.inl v18), some (.inl v4), none, none, none, none, none], [], m) (.inl (some (.inl r)), m, 0, 0)
            refine e_steps 1 (s' := (104, [some (.inr (.inr (some (9, 0)))), some (.inl a1), some (.inl v17), some (.inl v18), some (.inl (v4 + 1)), none, none, none, none, none], [], m)) rfl ?_
            refine e_let (fun (v19 : Int32) => (104, [some (.inr (.inr (some (9, 0)))), some (.inl a1), some (.inl v17), some (.inl v18), some (.inl v19), none, none, none, none, none], [], m)) hres (fun v19 hres => ?_)
            refine e_steps 1 (s' := (7, [some (.inr (.inr (some (9, 0)))), some (.inl a1), some (.inl v17), some (.inl v18), some (.inl v19), none, none, none, none, none], [], m)) rfl ?_
            obtain rfl := Option.some.inj hres
            exact e_mask (L' := [some (.inr (.inr (some (9, 0)))), some (.inl a1), some (.inl v17), some (.inl v18), some (.inl v19), none, none, none, none, none]) rfl (hcl1 _ rfl)
          · obtain ⟨v9, v10, v11⟩ := s
            show mm_E (d + 1) 148 (54, [some (.inr (.inr (some (9, 0)))), some (.inl a1), some (.inl v9), some (.inl v10), some (.inl v4), none, some (.inl v7), some (.inl v11), none, none], [], m) (.inl (some (.inl r)), m, 0, 0)
            refine e_steps 2 (s' := (58, [some (.inr (.inr (some (9, 0)))), some (.inl a1), some (.inl v9), some (.inl v10), some (.inl v4), none, some (.inl v7), some (.inl v11), none, none], [.inl v7, .inl v11], m)) rfl ?_
            refine e_if (s1 := (101, [some (.inr (.inr (some (9, 0)))), some (.inl a1), some (.inl v9), some (.inl v10), some (.inl v4), none, some (.inl v7), some (.inl v11), none, none], [], m)) (s2 := (61, [some (.inr (.inr (some (9, 0)))), some (.inl a1), some (.inl v9), some (.inl v10), some (.inl v4), none, some (.inl v7), some (.inl v11), none, none], [], m)) rfl hres (fun hc hres => ?_) (fun hc hres => ?_)
            · obtain rfl := Option.some.inj hres
              exact e_mask (L' := [some (.inr (.inr (some (9, 0)))), some (.inl a1), some (.inl v9), some (.inl v10), some (.inl v4), none, none, none, none, none]) rfl (hxl8 _ rfl)
            · refine e_steps 8 (s' := (72, [some (.inr (.inr (some (9, 0)))), some (.inl a1), some (.inl v9), some (.inl v10), some (.inl v4), none, some (.inl v7), some (.inl v11), some (.inl ((1 <<< (v4 &&& 31)) ||| (1 <<< (v11 &&& 31)))), none], [], m)) rfl ?_
              refine e_let (fun (v12 : Int32) => (72, [some (.inr (.inr (some (9, 0)))), some (.inl a1), some (.inl v9), some (.inl v10), some (.inl v4), none, some (.inl v7), some (.inl v11), some (.inl v12), none], [], m)) hres (fun v12 hres => ?_)
              refine e_steps 2 (s' := (75, [some (.inr (.inr (some (9, 0)))), some (.inl a1), some (.inl v9), some (.inl v10), some (.inl v4), none, some (.inl v7), some (.inl v11), some (.inl v12), none], [.inl v12, .inr (.inr (some (9, 0)))], m)) rfl ?_
              obtain ⟨r13, hv, hres⟩ := mm_b1_some hres
              refine e_call0 (pc := 78) (L := [some (.inr (.inr (some (9, 0)))), some (.inl a1), some (.inl v9), some (.inl v10), some (.inl v4), none, some (.inl v7), some (.inl v11), some (.inl v12), none]) (st := []) (m' := m) (v := some (.inl r13)) rfl (k_X4_lostBy d (by omega) v12 _ _ hv) ?_
              show mm_E (d + 1) 148 (78, [some (.inr (.inr (some (9, 0)))), some (.inl a1), some (.inl v9), some (.inl v10), some (.inl v4), none, some (.inl v7), some (.inl v11), some (.inl v12), none], [.inl r13], m) (.inl (some (.inl r)), m, 0, 0)
              obtain ⟨r14, hv, hres⟩ := mm_b1_some hres
              refine e_call0 (pc := 81) (L := [some (.inr (.inr (some (9, 0)))), some (.inl a1), some (.inl v9), some (.inl v10), some (.inl v4), none, some (.inl v7), some (.inl v11), some (.inl v12), none]) (st := []) (m' := m) (v := some (.inl r14)) rfl (k_J_bitCount d (by omega) r13 _ _ hv) ?_
              show mm_E (d + 1) 148 (81, [some (.inr (.inr (some (9, 0)))), some (.inl a1), some (.inl v9), some (.inl v10), some (.inl v4), none, some (.inl v7), some (.inl v11), some (.inl v12), none], [.inl r14], m) (.inl (some (.inl r)), m, 0, 0)
              refine e_steps 3 (s' := (86, [some (.inr (.inr (some (9, 0)))), some (.inl a1), some (.inl v9), some (.inl v10), some (.inl v4), none, some (.inl v7), some (.inl v11), some (.inl v12), some (.inl r14)], [.inl v10, .inl r14], m)) rfl ?_
              refine e_if (s1 := (95, [some (.inr (.inr (some (9, 0)))), some (.inl a1), some (.inl v9), some (.inl v10), some (.inl v4), none, some (.inl v7), some (.inl v11), some (.inl v12), some (.inl r14)], [], m)) (s2 := (89, [some (.inr (.inr (some (9, 0)))), some (.inl a1), some (.inl v9), some (.inl v10), some (.inl v4), none, some (.inl v7), some (.inl v11), some (.inl v12), some (.inl r14)], [], m)) rfl hres (fun hc hres => ?_) (fun hc hres => ?_)
              · refine e_mask (L' := [some (.inr (.inr (some (9, 0)))), some (.inl a1), some (.inl v9), some (.inl v10), some (.inl v4), none, some (.inl v7), some (.inl v11), none, none]) rfl ?_
                refine e_steps 1 (s' := (98, [some (.inr (.inr (some (9, 0)))), some (.inl a1), some (.inl v9), some (.inl v10), some (.inl v4), none, some (.inl v7), some (.inl (v11 + 1)), none, none], [], m)) rfl ?_
                refine e_let (fun (v15 : Int32) => (98, [some (.inr (.inr (some (9, 0)))), some (.inl a1), some (.inl v9), some (.inl v10), some (.inl v4), none, some (.inl v7), some (.inl v15), none, none], [], m)) hres (fun v15 hres => ?_)
                refine e_steps 1 (s' := (54, [some (.inr (.inr (some (9, 0)))), some (.inl a1), some (.inl v9), some (.inl v10), some (.inl v4), none, some (.inl v7), some (.inl v15), none, none], [], m)) rfl ?_
                obtain rfl := Option.some.inj hres
                exact e_mask (L' := [some (.inr (.inr (some (9, 0)))), some (.inl a1), some (.inl v9), some (.inl v10), some (.inl v4), none, some (.inl v7), some (.inl v15), none, none]) rfl (hcl8 _ rfl)
              · refine e_steps 4 (s' := (95, [some (.inr (.inr (some (9, 0)))), some (.inl a1), some (.inl v12), some (.inl r14), some (.inl v4), none, some (.inl v7), some (.inl v11), some (.inl v12), some (.inl r14)], [], m)) rfl ?_
                refine e_mask (L' := [some (.inr (.inr (some (9, 0)))), some (.inl a1), some (.inl v12), some (.inl r14), some (.inl v4), none, some (.inl v7), some (.inl v11), none, none]) rfl ?_
                refine e_steps 1 (s' := (98, [some (.inr (.inr (some (9, 0)))), some (.inl a1), some (.inl v12), some (.inl r14), some (.inl v4), none, some (.inl v7), some (.inl (v11 + 1)), none, none], [], m)) rfl ?_
                refine e_let (fun (v16 : Int32) => (98, [some (.inr (.inr (some (9, 0)))), some (.inl a1), some (.inl v12), some (.inl r14), some (.inl v4), none, some (.inl v7), some (.inl v16), none, none], [], m)) hres (fun v16 hres => ?_)
                refine e_steps 1 (s' := (54, [some (.inr (.inr (some (9, 0)))), some (.inl a1), some (.inl v12), some (.inl r14), some (.inl v4), none, some (.inl v7), some (.inl v16), none, none], [], m)) rfl ?_
                obtain rfl := Option.some.inj hres
                exact e_mask (L' := [some (.inr (.inr (some (9, 0)))), some (.inl a1), some (.inl v12), some (.inl r14), some (.inl v4), none, some (.inl v7), some (.inl v16), none, none]) rfl (hcl8 _ rfl)
        · refine e_steps 5 (s' := (50, [some (.inr (.inr (some (9, 0)))), some (.inl a1), some (.inl v2), some (.inl v3), some (.inl v4), some (.inl w5), some (.inl (v4 + 1)), none, none, none], [], m)) rfl ?_
          refine e_let (fun (v20 : Int32) => (50, [some (.inr (.inr (some (9, 0)))), some (.inl a1), some (.inl v2), some (.inl v3), some (.inl v4), some (.inl w5), some (.inl v20), none, none, none], [], m)) hres (fun v20 hres => ?_)
          refine e_steps 2 (s' := (54, [some (.inr (.inr (some (9, 0)))), some (.inl a1), some (.inl v2), some (.inl v3), some (.inl v4), some (.inl w5), some (.inl v20), some (.inl w5), none, none], [], m)) rfl ?_
          refine e_mask (L' := [some (.inr (.inr (some (9, 0)))), some (.inl a1), some (.inl v2), some (.inl v3), some (.inl v4), none, some (.inl v20), some (.inl w5), none, none]) rfl ?_
          refine e_loopb (φ := fun s => (54, [some (.inr (.inr (some (9, 0)))), some (.inl a1), some (.inl s.1), some (.inl s.2.1), some (.inl v4), none, some (.inl v20), some (.inl s.2.2), none, none], [], m)) (K := fun t => mm_E (d + 1) 148 (101, [some (.inr (.inr (some (9, 0)))), some (.inl a1), some (.inl t.1), some (.inl t.2), some (.inl v4), none, none, none, none, none], [], m) (.inl (some (.inl r)), m, 0, 0)) hres (fun t hres => ?_) (fun s ol21 hres hcl21 hxl21 => ?_)
          · obtain ⟨v30, v31⟩ := t
            show mm_E (d + 1) 148 (101, [some (.inr (.inr (some (9, 0)))), some (.inl a1), some (.inl v30), some (.inl v31), some (.inl v4), none, none, none, none, none], [], m) (.inl (some (.inl r)), m, 0, 0)
            refine e_steps 1 (s' := (104, [some (.inr (.inr (some (9, 0)))), some (.inl a1), some (.inl v30), some (.inl v31), some (.inl (v4 + 1)), none, none, none, none, none], [], m)) rfl ?_
            refine e_let (fun (v32 : Int32) => (104, [some (.inr (.inr (some (9, 0)))), some (.inl a1), some (.inl v30), some (.inl v31), some (.inl v32), none, none, none, none, none], [], m)) hres (fun v32 hres => ?_)
            refine e_steps 1 (s' := (7, [some (.inr (.inr (some (9, 0)))), some (.inl a1), some (.inl v30), some (.inl v31), some (.inl v32), none, none, none, none, none], [], m)) rfl ?_
            obtain rfl := Option.some.inj hres
            exact e_mask (L' := [some (.inr (.inr (some (9, 0)))), some (.inl a1), some (.inl v30), some (.inl v31), some (.inl v32), none, none, none, none, none]) rfl (hcl1 _ rfl)
          · obtain ⟨v22, v23, v24⟩ := s
            show mm_E (d + 1) 148 (54, [some (.inr (.inr (some (9, 0)))), some (.inl a1), some (.inl v22), some (.inl v23), some (.inl v4), none, some (.inl v20), some (.inl v24), none, none], [], m) (.inl (some (.inl r)), m, 0, 0)
            refine e_steps 2 (s' := (58, [some (.inr (.inr (some (9, 0)))), some (.inl a1), some (.inl v22), some (.inl v23), some (.inl v4), none, some (.inl v20), some (.inl v24), none, none], [.inl v20, .inl v24], m)) rfl ?_
            refine e_if (s1 := (101, [some (.inr (.inr (some (9, 0)))), some (.inl a1), some (.inl v22), some (.inl v23), some (.inl v4), none, some (.inl v20), some (.inl v24), none, none], [], m)) (s2 := (61, [some (.inr (.inr (some (9, 0)))), some (.inl a1), some (.inl v22), some (.inl v23), some (.inl v4), none, some (.inl v20), some (.inl v24), none, none], [], m)) rfl hres (fun hc hres => ?_) (fun hc hres => ?_)
            · obtain rfl := Option.some.inj hres
              exact e_mask (L' := [some (.inr (.inr (some (9, 0)))), some (.inl a1), some (.inl v22), some (.inl v23), some (.inl v4), none, none, none, none, none]) rfl (hxl21 _ rfl)
            · refine e_steps 8 (s' := (72, [some (.inr (.inr (some (9, 0)))), some (.inl a1), some (.inl v22), some (.inl v23), some (.inl v4), none, some (.inl v20), some (.inl v24), some (.inl ((1 <<< (v4 &&& 31)) ||| (1 <<< (v24 &&& 31)))), none], [], m)) rfl ?_
              refine e_let (fun (v25 : Int32) => (72, [some (.inr (.inr (some (9, 0)))), some (.inl a1), some (.inl v22), some (.inl v23), some (.inl v4), none, some (.inl v20), some (.inl v24), some (.inl v25), none], [], m)) hres (fun v25 hres => ?_)
              refine e_steps 2 (s' := (75, [some (.inr (.inr (some (9, 0)))), some (.inl a1), some (.inl v22), some (.inl v23), some (.inl v4), none, some (.inl v20), some (.inl v24), some (.inl v25), none], [.inl v25, .inr (.inr (some (9, 0)))], m)) rfl ?_
              obtain ⟨r26, hv, hres⟩ := mm_b1_some hres
              refine e_call0 (pc := 78) (L := [some (.inr (.inr (some (9, 0)))), some (.inl a1), some (.inl v22), some (.inl v23), some (.inl v4), none, some (.inl v20), some (.inl v24), some (.inl v25), none]) (st := []) (m' := m) (v := some (.inl r26)) rfl (k_X4_lostBy d (by omega) v25 _ _ hv) ?_
              show mm_E (d + 1) 148 (78, [some (.inr (.inr (some (9, 0)))), some (.inl a1), some (.inl v22), some (.inl v23), some (.inl v4), none, some (.inl v20), some (.inl v24), some (.inl v25), none], [.inl r26], m) (.inl (some (.inl r)), m, 0, 0)
              obtain ⟨r27, hv, hres⟩ := mm_b1_some hres
              refine e_call0 (pc := 81) (L := [some (.inr (.inr (some (9, 0)))), some (.inl a1), some (.inl v22), some (.inl v23), some (.inl v4), none, some (.inl v20), some (.inl v24), some (.inl v25), none]) (st := []) (m' := m) (v := some (.inl r27)) rfl (k_J_bitCount d (by omega) r26 _ _ hv) ?_
              show mm_E (d + 1) 148 (81, [some (.inr (.inr (some (9, 0)))), some (.inl a1), some (.inl v22), some (.inl v23), some (.inl v4), none, some (.inl v20), some (.inl v24), some (.inl v25), none], [.inl r27], m) (.inl (some (.inl r)), m, 0, 0)
              refine e_steps 3 (s' := (86, [some (.inr (.inr (some (9, 0)))), some (.inl a1), some (.inl v22), some (.inl v23), some (.inl v4), none, some (.inl v20), some (.inl v24), some (.inl v25), some (.inl r27)], [.inl v23, .inl r27], m)) rfl ?_
              refine e_if (s1 := (95, [some (.inr (.inr (some (9, 0)))), some (.inl a1), some (.inl v22), some (.inl v23), some (.inl v4), none, some (.inl v20), some (.inl v24), some (.inl v25), some (.inl r27)], [], m)) (s2 := (89, [some (.inr (.inr (some (9, 0)))), some (.inl a1), some (.inl v22), some (.inl v23), some (.inl v4), none, some (.inl v20), some (.inl v24), some (.inl v25), some (.inl r27)], [], m)) rfl hres (fun hc hres => ?_) (fun hc hres => ?_)
              · refine e_mask (L' := [some (.inr (.inr (some (9, 0)))), some (.inl a1), some (.inl v22), some (.inl v23), some (.inl v4), none, some (.inl v20), some (.inl v24), none, none]) rfl ?_
                refine e_steps 1 (s' := (98, [some (.inr (.inr (some (9, 0)))), some (.inl a1), some (.inl v22), some (.inl v23), some (.inl v4), none, some (.inl v20), some (.inl (v24 + 1)), none, none], [], m)) rfl ?_
                refine e_let (fun (v28 : Int32) => (98, [some (.inr (.inr (some (9, 0)))), some (.inl a1), some (.inl v22), some (.inl v23), some (.inl v4), none, some (.inl v20), some (.inl v28), none, none], [], m)) hres (fun v28 hres => ?_)
                refine e_steps 1 (s' := (54, [some (.inr (.inr (some (9, 0)))), some (.inl a1), some (.inl v22), some (.inl v23), some (.inl v4), none, some (.inl v20), some (.inl v28), none, none], [], m)) rfl ?_
                obtain rfl := Option.some.inj hres
                exact e_mask (L' := [some (.inr (.inr (some (9, 0)))), some (.inl a1), some (.inl v22), some (.inl v23), some (.inl v4), none, some (.inl v20), some (.inl v28), none, none]) rfl (hcl21 _ rfl)
              · refine e_steps 4 (s' := (95, [some (.inr (.inr (some (9, 0)))), some (.inl a1), some (.inl v25), some (.inl r27), some (.inl v4), none, some (.inl v20), some (.inl v24), some (.inl v25), some (.inl r27)], [], m)) rfl ?_
                refine e_mask (L' := [some (.inr (.inr (some (9, 0)))), some (.inl a1), some (.inl v25), some (.inl r27), some (.inl v4), none, some (.inl v20), some (.inl v24), none, none]) rfl ?_
                refine e_steps 1 (s' := (98, [some (.inr (.inr (some (9, 0)))), some (.inl a1), some (.inl v25), some (.inl r27), some (.inl v4), none, some (.inl v20), some (.inl (v24 + 1)), none, none], [], m)) rfl ?_
                refine e_let (fun (v29 : Int32) => (98, [some (.inr (.inr (some (9, 0)))), some (.inl a1), some (.inl v25), some (.inl r27), some (.inl v4), none, some (.inl v20), some (.inl v29), none, none], [], m)) hres (fun v29 hres => ?_)
                refine e_steps 1 (s' := (54, [some (.inr (.inr (some (9, 0)))), some (.inl a1), some (.inl v25), some (.inl r27), some (.inl v4), none, some (.inl v20), some (.inl v29), none, none], [], m)) rfl ?_
                obtain rfl := Option.some.inj hres
                exact e_mask (L' := [some (.inr (.inr (some (9, 0)))), some (.inl a1), some (.inl v25), some (.inl r27), some (.inl v4), none, some (.inl v20), some (.inl v29), none, none]) rfl (hcl21 _ rfl)
      · refine e_if (s1 := (26, [some (.inr (.inr (some (9, 0)))), some (.inl a1), some (.inl v2), some (.inl v3), some (.inl v4), none, none, none, none, none], [], m)) (s2 := (21, [some (.inr (.inr (some (9, 0)))), some (.inl a1), some (.inl v2), some (.inl v3), some (.inl v4), none, none, none, none, none], [], m)) rfl hres (fun hc hres => ?_) (fun hc hres => ?_)
        · refine e_steps 3 (s' := (30, [some (.inr (.inr (some (9, 0)))), some (.inl a1), some (.inl v2), some (.inl v3), some (.inl v4), none, none, none, none, none], [.inl (v4 + 1)], m)) rfl ?_
          exact e_mask (L' := [some (.inr (.inr (some (9, 0)))), some (.inl a1), some (.inl v2), some (.inl v3), some (.inl v4), none, none, none, none, none]) rfl (hk6 _ hres)
        · refine e_steps 2 (s' := (30, [some (.inr (.inr (some (9, 0)))), some (.inl a1), some (.inl v2), some (.inl v3), some (.inl v4), none, none, none, none, none], [.inl v4], m)) rfl ?_
          exact e_mask (L' := [some (.inr (.inr (some (9, 0)))), some (.inl a1), some (.inl v2), some (.inl v3), some (.inl v4), none, none, none, none, none]) rfl (hk6 _ hres)
