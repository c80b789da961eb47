/-- GlassThreadsModel.thrown()I -/
def f_X12_thrown  (m : mm_M) : Option (Int32) :=
some (m 12 0 3)
set_option maxHeartbeats 4000000 in
set_option maxRecDepth 100000 in
theorem k_X12_thrown (d : Nat) (hd : 0 ≤ d)  (m : mm_M) (r : Int32) (hres : f_X12_thrown  m = some r) : mm_X d 157 [.inr (.inr (some (12, 0)))] m (.inl (some (.inl r)), m, 0, 0) := by
  unfold f_X12_thrown at hres
  show mm_E d 157 (0, [some (.inr (.inr (some (12, 0))))], [], m) (.inl (some (.inl r)), m, 0, 0)
  refine e_steps 2 (s' := (4, [some (.inr (.inr (some (12, 0))))], [.inl (m 12 0 3)], m)) rfl ?_
  obtain rfl := Option.some.inj hres
  exact e_ret rfl rfl
/-- GlassThreadsModel.fail(I)I -/
def f_X12_fail (a1 : Int32) (m : mm_M) : Option (Int32 × mm_M) :=
mm_let (mm_w m 12 0 3 a1) fun m1 =>
some (0, m1)
set_option maxHeartbeats 4000000 in
set_option maxRecDepth 100000 in
theorem k_X12_fail (d : Nat) (hd : 0 ≤ d) (a1 : Int32) (m : mm_M) (r : Int32 × mm_M) (hres : f_X12_fail a1 m = some r) : mm_X d 158 [.inr (.inr (some (12, 0))), .inl a1] m (.inl (some (.inl r.1)), r.2, 0, 0) := by
  unfold f_X12_fail at hres
  show mm_E d 158 (0, [some (.inr (.inr (some (12, 0)))), some (.inl a1)], [], m) (.inl (some (.inl r.1)), r.2, 0, 0)
  refine e_steps 3 (s' := (5, [some (.inr (.inr (some (12, 0)))), some (.inl a1)], [], (mm_w m 12 0 3 a1))) rfl ?_
  refine e_let (fun (m1 : mm_M) => (5, [some (.inr (.inr (some (12, 0)))), some (.inl a1)], [], m1)) hres (fun m1 hres => ?_)
  refine e_steps 1 (s' := (6, [some (.inr (.inr (some (12, 0)))), some (.inl a1)], [.inl 0], m1)) rfl ?_
  obtain rfl := Option.some.inj hres
  exact e_ret rfl rfl
/-- GlassThreadsModel.refuse(I)Z -/
def f_X12_refuse (a1 : Int32) (m : mm_M) : Option (Int32 × mm_M) :=
mm_let (mm_w m 12 0 3 a1) fun m1 =>
some (0, m1)
set_option maxHeartbeats 4000000 in
set_option maxRecDepth 100000 in
theorem k_X12_refuse (d : Nat) (hd : 0 ≤ d) (a1 : Int32) (m : mm_M) (r : Int32 × mm_M) (hres : f_X12_refuse a1 m = some r) : mm_X d 159 [.inr (.inr (some (12, 0))), .inl a1] m (.inl (some (.inl r.1)), r.2, 0, 0) := by
  unfold f_X12_refuse at hres
  show mm_E d 159 (0, [some (.inr (.inr (some (12, 0)))), some (.inl a1)], [], m) (.inl (some (.inl r.1)), r.2, 0, 0)
  refine e_steps 3 (s' := (5, [some (.inr (.inr (some (12, 0)))), some (.inl a1)], [], (mm_w m 12 0 3 a1))) rfl ?_
  refine e_let (fun (m1 : mm_M) => (5, [some (.inr (.inr (some (12, 0)))), some (.inl a1)], [], m1)) hres (fun m1 hres => ?_)
  refine e_steps 1 (s' := (6, [some (.inr (.inr (some (12, 0)))), some (.inl a1)], [.inl 0], m1)) rfl ?_
  obtain rfl := Option.some.inj hres
  exact e_ret rfl rfl
/-- GlassThreadsModel.isIn(III)Z -/
def f_X12_isIn (a0 : Int32) (a1 : Int32) (a2 : Int32) (m : mm_M) : Option (Int32) :=
if a0 < a1 then (some 0)
else (if a2 < a0 then (some 0)
else (some 1))
set_option maxHeartbeats 4000000 in
set_option maxRecDepth 100000 in
theorem k_X12_isIn (d : Nat) (hd : 0 ≤ d) (a0 : Int32) (a1 : Int32) (a2 : Int32) (m : mm_M) (r : Int32) (hres : f_X12_isIn a0 a1 a2 m = some r) : mm_X d 160 [.inl a0, .inl a1, .inl a2] m (.inl (some (.inl r)), m, 0, 0) := by
  unfold f_X12_isIn at hres
  show mm_E d 160 (0, [some (.inl a0), some (.inl a1), some (.inl a2)], [], m) (.inl (some (.inl r)), m, 0, 0)
  refine e_steps 2 (s' := (2, [some (.inl a0), some (.inl a1), some (.inl a2)], [.inl a1, .inl a0], m)) rfl ?_
  refine e_if (s1 := (14, [some (.inl a0), some (.inl a1), some (.inl a2)], [], m)) (s2 := (5, [some (.inl a0), some (.inl a1), some (.inl a2)], [], m)) rfl hres (fun hc hres => ?_) (fun hc hres => ?_)
  · refine e_mask (L' := [none, none, none]) rfl ?_
    refine e_steps 1 (s' := (15, [none, none, none], [.inl 0], m)) rfl ?_
    obtain rfl := Option.some.inj hres
    exact e_ret rfl rfl
  · refine e_steps 2 (s' := (7, [some (.inl a0), some (.inl a1), some (.inl a2)], [.inl a2, .inl a0], m)) rfl ?_
    refine e_if (s1 := (14, [some (.inl a0), some (.inl a1), some (.inl a2)], [], m)) (s2 := (10, [some (.inl a0), some (.inl a1), some (.inl a2)], [], m)) rfl hres (fun hc hres => ?_) (fun hc hres => ?_)
    · refine e_mask (L' := [none, none, none]) rfl ?_
      refine e_steps 1 (s' := (15, [none, none, none], [.inl 0], m)) rfl ?_
      obtain rfl := Option.some.inj hres
      exact e_ret rfl rfl
    · refine e_steps 2 (s' := (15, [some (.inl a0), some (.inl a1), some (.inl a2)], [.inl 1], m)) rfl ?_
      refine e_mask (L' := [none, none, none]) rfl ?_
      obtain rfl := Option.some.inj hres
      exact e_ret rfl rfl
/-- GlassThreadsModel.feed(IIIII)I -/
def f_X12_feed (a1 : Int32) (a2 : Int32) (a3 : Int32) (a4 : Int32) (a5 : Int32) (m : mm_M) : Option (Int32 × mm_M) :=
mm_let (mm_w m 12 0 3 0) fun m1 =>
if ((m1 12 0 21) + 20) ≤ 400 then ((mm_b1 (mm_loop (σ := Int32 × mm_M) (ρ := (mm_M)) (fun (s : Int32 × mm_M) => match s with
| (v3, m4) => (if 20 ≤ v3 then (some (.inr m4))
else (mm_let (fun (w5 : Int32) => (if mm_in (m4 12 0 21) 400 then (
mm_let (mm_w m4 80 0 ((m4 12 0 21).toNatClampNeg) ((w5 >>> ((24 - (8 * (v3 % 4))) &&& 31)) &&& 255)) fun m7 =>
mm_let (mm_w m7 12 0 21 ((m7 12 0 21) + 1)) fun m8 =>
mm_let (v3 + 1) fun v9 =>
some (.inl (v9, m8))) else none : Option ((Int32 × mm_M) ⊕ ((mm_M))))) fun k6 =>
if 4 ≤ v3 then (if 8 ≤ v3 then (if 12 ≤ v3 then (if 16 ≤ v3 then (k6 a5)
else (k6 a4))
else (k6 a3))
else (k6 a2))
else (k6 a1)) : Option ((Int32 × mm_M) ⊕ ((mm_M))))) mm_fu (0, m1)) fun m10 =>
some ((m10 12 0 21), m10)))
else (some ((-1), m1))
set_option maxHeartbeats 4000000 in
set_option maxRecDepth 100000 in
theorem k_X12_feed (d : Nat) (hd : 0 ≤ d) (a1 : Int32) (a2 : Int32) (a3 : Int32) (a4 : Int32) (a5 : Int32) (m : mm_M) (r : Int32 × mm_M) (hres : f_X12_feed a1 a2 a3 a4 a5 m = some r) : mm_X d 161 [.inr (.inr (some (12, 0))), .inl a1, .inl a2, .inl a3, .inl a4, .inl a5] m (.inl (some (.inl r.1)), r.2, 0, 0) := by
  unfold f_X12_feed at hres
  show mm_E d 161 (0, [some (.inr (.inr (some (12, 0)))), some (.inl a1), some (.inl a2), some (.inl a3), some (.inl a4), some (.inl a5), none, none], [], m) (.inl (some (.inl r.1)), r.2, 0, 0)
  refine e_steps 3 (s' := (5, [some (.inr (.inr (some (12, 0)))), some (.inl a1), some (.inl a2), some (.inl a3), some (.inl a4), some (.inl a5), none, none], [], (mm_w m 12 0 3 0))) rfl ?_
  refine e_let (fun (m1 : mm_M) => (5, [some (.inr (.inr (some (12, 0)))), some (.inl a1), some (.inl a2), some (.inl a3), some (.inl a4), some (.inl a5), none, none], [], m1)) hres (fun m1 hres => ?_)
  refine e_steps 5 (s' := (15, [some (.inr (.inr (some (12, 0)))), some (.inl a1), some (.inl a2), some (.inl a3), some (.inl a4), some (.inl a5), none, none], [.inl 400, .inl ((m1 12 0 21) + 20)], m1)) rfl ?_
  refine e_if (s1 := (20, [some (.inr (.inr (some (12, 0)))), some (.inl a1), some (.inl a2), some (.inl a3), some (.inl a4), some (.inl a5), none, none], [], m1)) (s2 := (18, [some (.inr (.inr (some (12, 0)))), some (.inl a1), some (.inl a2), some (.inl a3), some (.inl a4), some (.inl a5), none, none], [], m1)) rfl hres (fun hc hres => ?_) (fun hc hres => ?_)
  · refine e_steps 2 (s' := (23, [some (.inr (.inr (some (12, 0)))), some (.inl a1), some (.inl a2), some (.inl a3), some (.inl a4), some (.inl a5), some (.inl 0), none], [], m1)) rfl ?_
    refine e_mask (L' := [some (.inr (.inr (some (12, 0)))), some (.inl a1), some (.inl a2), some (.inl a3), some (.inl a4), some (.inl a5), some (.inl 0), none]) rfl ?_
    refine e_loopb (φ := fun s => (23, [some (.inr (.inr (some (12, 0)))), some (.inl a1), some (.inl a2), some (.inl a3), some (.inl a4), some (.inl a5), some (.inl s.1), none], [], s.2)) (K := fun t => mm_E d 161 (120, [some (.inr (.inr (some (12, 0)))), none, none, none, none, none, none, none], [], t) (.inl (some (.inl r.1)), r.2, 0, 0)) hres (fun m10 hres => ?_) (fun s ol2 hres hcl2 hxl2 => ?_)
    · show mm_E d 161 (120, [some (.inr (.inr (some (12, 0)))), none, none, none, none, none, none, none], [], m10) (.inl (some (.inl r.1)), r.2, 0, 0)
      refine e_steps 2 (s' := (124, [some (.inr (.inr (some (12, 0)))), none, none, none, none, none, none, none], [.inl (m10 12 0 21)], m10)) rfl ?_
      obtain rfl := Option.some.inj hres
      exact e_ret rfl rfl
    · obtain ⟨v3, m4⟩ := s
      show mm_E d 161 (23, [some (.inr (.inr (some (12, 0)))), some (.inl a1), some (.inl a2), some (.inl a3), some (.inl a4), some (.inl a5), some (.inl v3), none], [], m4) (.inl (some (.inl r.1)), r.2, 0, 0)
      refine e_steps 2 (s' := (27, [some (.inr (.inr (some (12, 0)))), some (.inl a1), some (.inl a2), some (.inl a3), some (.inl a4), some (.inl a5), some (.inl v3), none], [.inl 20, .inl v3], m4)) rfl ?_
      refine e_if (s1 := (120, [some (.inr (.inr (some (12, 0)))), some (.inl a1), some (.inl a2), some (.inl a3), some (.inl a4), some (.inl a5), some (.inl v3), none], [], m4)) (s2 := (30, [some (.inr (.inr (some (12, 0)))), some (.inl a1), some (.inl a2), some (.inl a3), some (.inl a4), some (.inl a5), some (.inl v3), none], [], m4)) rfl hres (fun hc hres => ?_) (fun hc hres => ?_)
      · obtain rfl := Option.some.inj hres
        exact e_mask (L' := [some (.inr (.inr (some (12, 0)))), none, none, none, none, none, none, none]) rfl (hxl2 _ rfl)
      · refine e_steps 2 (s' := (33, [some (.inr (.inr (some (12, 0)))), some (.inl a1), some (.inl a2), some (.inl a3), some (.inl a4), some (.inl a5), some (.inl v3), none], [.inl 4, .inl v3], m4)) rfl ?_
        refine e_join (fun k6 => ∀ (w5 : Int32), k6 w5 = some ol2 → mm_E d 161 (76, [some (.inr (.inr (some (12, 0)))), some (.inl a1), some (.inl a2), some (.inl a3), some (.inl a4), some (.inl a5), some (.inl v3), none], [.inl w5], m4) (.inl (some (.inl r.1)), r.2, 0, 0)) hres (fun w5 hres => ?_) (fun k6 hk6 hres => ?_)
        · refine e_steps 16 (s' := (103, [some (.inr (.inr (some (12, 0)))), some (.inl a1), some (.inl a2), some (.inl a3), some (.inl a4), some (.inl a5), some (.inl v3), some (.inl w5)], [.inl ((w5 >>> ((24 - (8 * (v3 % 4))) &&& 31)) &&& 255), .inl (m4 12 0 21), .inr (.inr (some (80, 0)))], m4)) rfl ?_
          refine e_gd (s1 := (104, [some (.inr (.inr (some (12, 0)))), some (.inl a1), some (.inl a2), some (.inl a3), some (.inl a4), some (.inl a5), some (.inl v3), some (.inl w5)], [], (mm_w m4 80 0 ((m4 12 0 21).toNatClampNeg) ((w5 >>> ((24 - (8 * (v3 % 4))) &&& 31)) &&& 255)))) rfl hres (fun hc hres => ?_)
          refine e_let (fun (m7 : mm_M) => (104, [some (.inr (.inr (some (12, 0)))), some (.inl a1), some (.inl a2), some (.inl a3), some (.inl a4), some (.inl a5), some (.inl v3), some (.inl w5)], [], m7)) hres (fun m7 hres => ?_)
          refine e_steps 6 (s' := (114, [some (.inr (.inr (some (12, 0)))), some (.inl a1), some (.inl a2), some (.inl a3), some (.inl a4), some (.inl a5), some (.inl v3), some (.inl w5)], [], (mm_w m7 12 0 21 ((m7 12 0 21) + 1)))) rfl ?_
          refine e_let (fun (m8 : mm_M) => (114, [some (.inr (.inr (some (12, 0)))), some (.inl a1), some (.inl a2), some (.inl a3), some (.inl a4), some (.inl a5), some (.inl v3), some (.inl w5)], [], m8)) hres (fun m8 hres => ?_)
          refine e_steps 1 (s' := (117, [some (.inr (.inr (some (12, 0)))), some (.inl a1), some (.inl a2), some (.inl a3), some (.inl a4), some (.inl a5), some (.inl (v3 + 1)), some (.inl w5)], [], m8)) rfl ?_
          refine e_let (fun (v9 : Int32) => (117, [some (.inr (.inr (some (12, 0)))), some (.inl a1), some (.inl a2), some (.inl a3), some (.inl a4), some (.inl a5), some (.inl v9), some (.inl w5)], [], m8)) hres (fun v9 hres => ?_)
          refine e_steps 1 (s' := (23, [some (.inr (.inr (some (12, 0)))), some (.inl a1), some (.inl a2), some (.inl a3), some (.inl a4), some (.inl a5), some (.inl v9), some (.inl w5)], [], m8)) rfl ?_
          obtain rfl := Option.some.inj hres
          exact e_mask (L' := [some (.inr (.inr (some (12, 0)))), some (.inl a1), some (.inl a2), some (.inl a3), some (.inl a4), some (.inl a5), some (.inl v9), none]) rfl (hcl2 _ rfl)
        · refine e_if (s1 := (40, [some (.inr (.inr (some (12, 0)))), some (.inl a1), some (.inl a2), some (.inl a3), some (.inl a4), some (.inl a5), some (.inl v3), none], [], m4)) (s2 := (36, [some (.inr (.inr (some (12, 0)))), some (.inl a1), some (.inl a2), some (.inl a3), some (.inl a4), some (.inl a5), some (.inl v3), none], [], m4)) rfl hres (fun hc hres => ?_) (fun hc hres => ?_)
          · refine e_steps 2 (s' := (44, [some (.inr (.inr (some (12, 0)))), some (.inl a1), some (.inl a2), some (.inl a3), some (.inl a4), some (.inl a5), some (.inl v3), none], [.inl 8, .inl v3], m4)) rfl ?_
            refine e_if (s1 := (51, [some (.inr (.inr (some (12, 0)))), some (.inl a1), some (.inl a2), some (.inl a3), some (.inl a4), some (.inl a5), some (.inl v3), none], [], m4)) (s2 := (47, [some (.inr (.inr (some (12, 0)))), some (.inl a1), some (.inl a2), some (.inl a3), some (.inl a4), some (.inl a5), some (.inl v3), none], [], m4)) rfl hres (fun hc hres => ?_) (fun hc hres => ?_)
            · refine e_steps 2 (s' := (55, [some (.inr (.inr (some (12, 0)))), some (.inl a1), some (.inl a2), some (.inl a3), some (.inl a4), some (.inl a5), some (.inl v3), none], [.inl 12, .inl v3], m4)) rfl ?_
              refine e_if (s1 := (62, [some (.inr (.inr (some (12, 0)))), some (.inl a1), some (.inl a2), some (.inl a3), some (.inl a4), some (.inl a5), some (.inl v3), none], [], m4)) (s2 := (58, [some (.inr (.inr (some (12, 0)))), some (.inl a1), some (.inl a2), some (.inl a3), some (.inl a4), some (.inl a5), some (.inl v3), none], [], m4)) rfl hres (fun hc hres => ?_) (fun hc hres => ?_)
              · refine e_steps 2 (s' := (66, [some (.inr (.inr (some (12, 0)))), some (.inl a1), some (.inl a2), some (.inl a3), some (.inl a4), some (.inl a5), some (.inl v3), none], [.inl 16, .inl v3], m4)) rfl ?_
                refine e_if (s1 := (74, [some (.inr (.inr (some (12, 0)))), some (.inl a1), some (.inl a2), some (.inl a3), some (.inl a4), some (.inl a5), some (.inl v3), none], [], m4)) (s2 := (69, [some (.inr (.inr (some (12, 0)))), some (.inl a1), some (.inl a2), some (.inl a3), some (.inl a4), some (.inl a5), some (.inl v3), none], [], m4)) rfl hres (fun hc hres => ?_) (fun hc hres => ?_)
                · refine e_steps 1 (s' := (76, [some (.inr (.inr (some (12, 0)))), some (.inl a1), some (.inl a2), some (.inl a3), some (.inl a4), some (.inl a5), some (.inl v3), none], [.inl a5], m4)) rfl ?_
                  exact e_mask (L' := [some (.inr (.inr (some (12, 0)))), some (.inl a1), some (.inl a2), some (.inl a3), some (.inl a4), some (.inl a5), some (.inl v3), none]) rfl (hk6 _ hres)
                · refine e_steps 2 (s' := (76, [some (.inr (.inr (some (12, 0)))), some (.inl a1), some (.inl a2), some (.inl a3), some (.inl a4), some (.inl a5), some (.inl v3), none], [.inl a4], m4)) rfl ?_
                  exact e_mask (L' := [some (.inr (.inr (some (12, 0)))), some (.inl a1), some (.inl a2), some (.inl a3), some (.inl a4), some (.inl a5), some (.inl v3), none]) rfl (hk6 _ hres)
              · refine e_steps 2 (s' := (76, [some (.inr (.inr (some (12, 0)))), some (.inl a1), some (.inl a2), some (.inl a3), some (.inl a4), some (.inl a5), some (.inl v3), none], [.inl a3], m4)) rfl ?_
                exact e_mask (L' := [some (.inr (.inr (some (12, 0)))), some (.inl a1), some (.inl a2), some (.inl a3), some (.inl a4), some (.inl a5), some (.inl v3), none]) rfl (hk6 _ hres)
            · refine e_steps 2 (s' := (76, [some (.inr (.inr (some (12, 0)))), some (.inl a1), some (.inl a2), some (.inl a3), some (.inl a4), some (.inl a5), some (.inl v3), none], [.inl a2], m4)) rfl ?_
              exact e_mask (L' := [some (.inr (.inr (some (12, 0)))), some (.inl a1), some (.inl a2), some (.inl a3), some (.inl a4), some (.inl a5), some (.inl v3), none]) rfl (hk6 _ hres)
          · refine e_steps 2 (s' := (76, [some (.inr (.inr (some (12, 0)))), some (.inl a1), some (.inl a2), some (.inl a3), some (.inl a4), some (.inl a5), some (.inl v3), none], [.inl a1], m4)) rfl ?_
            exact e_mask (L' := [some (.inr (.inr (some (12, 0)))), some (.inl a1), some (.inl a2), some (.inl a3), some (.inl a4), some (.inl a5), some (.inl v3), none]) rfl (hk6 _ hres)
  · refine e_steps 1 (s' := (19, [some (.inr (.inr (some (12, 0)))), some (.inl a1), some (.inl a2), some (.inl a3), some (.inl a4), some (.inl a5), none, none], [.inl (-1)], m1)) rfl ?_
    obtain rfl := Option.some.inj hres
    exact e_ret rfl rfl
/-- GlassThreadsModel.byteAt(I)I -/
def f_X12_byteAt (a1 : Int32) (m : mm_M) : Option (Int32) :=
if (m 12 0 23) ≤ a1 then (some (-1))
else (if mm_in a1 400 then (
some (m 80 0 a1.toNatClampNeg)) else none)
set_option maxHeartbeats 4000000 in
set_option maxRecDepth 100000 in
theorem k_X12_byteAt (d : Nat) (hd : 0 ≤ d) (a1 : Int32) (m : mm_M) (r : Int32) (hres : f_X12_byteAt a1 m = some r) : mm_X d 162 [.inr (.inr (some (12, 0))), .inl a1] m (.inl (some (.inl r)), m, 0, 0) := by
  unfold f_X12_byteAt at hres
  show mm_E d 162 (0, [some (.inr (.inr (some (12, 0)))), some (.inl a1)], [], m) (.inl (some (.inl r)), m, 0, 0)
  refine e_steps 3 (s' := (5, [some (.inr (.inr (some (12, 0)))), some (.inl a1)], [.inl (m 12 0 23), .inl a1], m)) rfl ?_
  refine e_if (s1 := (17, [some (.inr (.inr (some (12, 0)))), some (.inl a1)], [], m)) (s2 := (8, [some (.inr (.inr (some (12, 0)))), some (.inl a1)], [], m)) rfl hres (fun hc hres => ?_) (fun hc hres => ?_)
  · refine e_steps 1 (s' := (18, [some (.inr (.inr (some (12, 0)))), some (.inl a1)], [.inl (-1)], m)) rfl ?_
    refine e_mask (L' := [none, none]) rfl ?_
    obtain rfl := Option.some.inj hres
    exact e_ret rfl rfl
  · refine e_steps 3 (s' := (13, [some (.inr (.inr (some (12, 0)))), some (.inl a1)], [.inl a1, .inr (.inr (some (80, 0)))], m)) rfl ?_
    refine e_gd (s1 := (14, [some (.inr (.inr (some (12, 0)))), some (.inl a1)], [.inl (m 80 0 a1.toNatClampNeg)], m)) rfl hres (fun hc hres => ?_)
    refine e_steps 1 (s' := (18, [some (.inr (.inr (some (12, 0)))), some (.inl a1)], [.inl (m 80 0 a1.toNatClampNeg)], m)) rfl ?_
    refine e_mask (L' := [none, none]) rfl ?_
    obtain rfl := Option.some.inj hres
    exact e_ret rfl rfl
/-- GlassThreadsModel.isLetter(I)Z -/
def f_X12_isLetter (a0 : Int32) (m : mm_M) : Option (Int32) :=
if a0 < 97 then (some 0)
else (if 122 < a0 then (some 0)
else (some 1))
set_option maxHeartbeats 4000000 in
set_option maxRecDepth 100000 in
theorem k_X12_isLetter (d : Nat) (hd : 0 ≤ d) (a0 : Int32) (m : mm_M) (r : Int32) (hres : f_X12_isLetter a0 m = some r) : mm_X d 163 [.inl a0] m (.inl (some (.inl r)), m, 0, 0) := by
  unfold f_X12_isLetter at hres
  show mm_E d 163 (0, [some (.inl a0)], [], m) (.inl (some (.inl r)), m, 0, 0)
  refine e_steps 2 (s' := (3, [some (.inl a0)], [.inl 97, .inl a0], m)) rfl ?_
  refine e_if (s1 := (16, [some (.inl a0)], [], m)) (s2 := (6, [some (.inl a0)], [], m)) rfl hres (fun hc hres => ?_) (fun hc hres => ?_)
  · refine e_mask (L' := [none]) rfl ?_
    refine e_steps 1 (s' := (17, [none], [.inl 0], m)) rfl ?_
    obtain rfl := Option.some.inj hres
    exact e_ret rfl rfl
  · refine e_steps 2 (s' := (9, [some (.inl a0)], [.inl 122, .inl a0], m)) rfl ?_
    refine e_if (s1 := (16, [some (.inl a0)], [], m)) (s2 := (12, [some (.inl a0)], [], m)) rfl hres (fun hc hres => ?_) (fun hc hres => ?_)
    · refine e_mask (L' := [none]) rfl ?_
      refine e_steps 1 (s' := (17, [none], [.inl 0], m)) rfl ?_
      obtain rfl := Option.some.inj hres
      exact e_ret rfl rfl
    · refine e_steps 2 (s' := (17, [some (.inl a0)], [.inl 1], m)) rfl ?_
      refine e_mask (L' := [none]) rfl ?_
      obtain rfl := Option.some.inj hres
      exact e_ret rfl rfl
/-- GlassThreadsModel.isDigit(I)Z -/
def f_X12_isDigit (a0 : Int32) (m : mm_M) : Option (Int32) :=
if a0 < 48 then (some 0)
else (if 57 < a0 then (some 0)
else (some 1))
set_option maxHeartbeats 4000000 in
set_option maxRecDepth 100000 in
theorem k_X12_isDigit (d : Nat) (hd : 0 ≤ d) (a0 : Int32) (m : mm_M) (r : Int32) (hres : f_X12_isDigit a0 m = some r) : mm_X d 164 [.inl a0] m (.inl (some (.inl r)), m, 0, 0) := by
  unfold f_X12_isDigit at hres
  show mm_E d 164 (0, [some (.inl a0)], [], m) (.inl (some (.inl r)), m, 0, 0)
  refine e_steps 2 (s' := (3, [some (.inl a0)], [.inl 48, .inl a0], m)) rfl ?_
  refine e_if (s1 := (16, [some (.inl a0)], [], m)) (s2 := (6, [some (.inl a0)], [], m)) rfl hres (fun hc hres => ?_) (fun hc hres => ?_)
  · refine e_mask (L' := [none]) rfl ?_
    refine e_steps 1 (s' := (17, [none], [.inl 0], m)) rfl ?_
    obtain rfl := Option.some.inj hres
    exact e_ret rfl rfl
  · refine e_steps 2 (s' := (9, [some (.inl a0)], [.inl 57, .inl a0], m)) rfl ?_
    refine e_if (s1 := (16, [some (.inl a0)], [], m)) (s2 := (12, [some (.inl a0)], [], m)) rfl hres (fun hc hres => ?_) (fun hc hres => ?_)
    · refine e_mask (L' := [none]) rfl ?_
      refine e_steps 1 (s' := (17, [none], [.inl 0], m)) rfl ?_
      obtain rfl := Option.some.inj hres
      exact e_ret rfl rfl
    · refine e_steps 2 (s' := (17, [some (.inl a0)], [.inl 1], m)) rfl ?_
      refine e_mask (L' := [none]) rfl ?_
      obtain rfl := Option.some.inj hres
      exact e_ret rfl rfl
/-- GlassThreadsModel.step()V -/
def f_X12_step  (m : mm_M) : Option (mm_M) :=
(mm_b1 (mm_loop (σ := mm_M) (ρ := (mm_M)) (fun (m2 : mm_M) => (mm_b1 (f_X12_byteAt (m2 12 0 22) m2) fun r3 =>
mm_let ((mm_let (mm_w m2 12 0 22 ((m2 12 0 22) + 1)) fun m5 =>
some (.inl m5) : Option ((mm_M) ⊕ ((mm_M))))) fun k4 =>
if r3 = 32 then (k4)
else (mm_b1 (f_X12_byteAt (m2 12 0 22) m2) fun r6 =>
if r6 ≠ 10 then (some (.inr m2))
else (k4)) : Option ((mm_M) ⊕ ((mm_M))))) mm_fu m) fun m7 =>
mm_let (mm_w m7 12 0 27 (m7 12 0 22)) fun m8 =>
mm_let (mm_w m8 12 0 25 0) fun m9 =>
mm_b1 (f_X12_byteAt (m9 12 0 22) m9) fun r10 =>
if r10 ≠ (-1) then (mm_b1 (f_X12_isLetter r10 m9) fun r11 =>
if r11 = 0 then (mm_b1 (f_X12_isDigit r10 m9) fun r12 =>
if r12 = 0 then (mm_let (mm_w m9 12 0 22 ((m9 12 0 22) + 1)) fun m13 =>
mm_let (fun (w14 : Int32) => (mm_let (fun (w16 : Int32) => (mm_let (mm_w m13 12 0 24 w16) fun m18 =>
mm_let (mm_w m18 12 0 25 r10) fun m19 =>
mm_let (mm_w m19 12 0 28 (m19 12 0 22)) fun m20 =>
some m20 : Option (mm_M))) fun k17 =>
if w14 = 0 then (k17 4)
else (k17 3) : Option (mm_M))) fun k15 =>
if r10 = 59 then (k15 1)
else (if r10 = 40 then (k15 1)
else (if r10 = 41 then (k15 1)
else (if r10 = 43 then (k15 1)
else (if r10 = 45 then (k15 1)
else (if r10 = 42 then (k15 1)
else (if r10 = 47 then (k15 1)
else (if r10 = 60 then (k15 1)
else (if r10 ≠ 61 then (k15 0)
else (k15 1))))))))))
else (mm_let (mm_w m9 12 0 26 0) fun m21 =>
(mm_b1 (mm_loop (σ := mm_M) (ρ := (mm_M)) (fun (m23 : mm_M) => (mm_b1 (f_X12_byteAt (m23 12 0 22) m23) fun r24 =>
mm_b1 (f_X12_isDigit r24 m23) fun r25 =>
if r25 = 0 then (some (.inr m23))
else (mm_b1 (f_X12_byteAt (m23 12 0 22) m23) fun r26 =>
mm_let (mm_w m23 12 0 26 (mm_min 1000000 (((10 * (m23 12 0 26)) + r26) - 48))) fun m27 =>
mm_let (mm_w m27 12 0 22 ((m27 12 0 22) + 1)) fun m28 =>
some (.inl m28)) : Option ((mm_M) ⊕ ((mm_M))))) mm_fu m21) fun m29 =>
mm_let (mm_w m29 12 0 24 2) fun m30 =>
mm_let (mm_w m30 12 0 28 (m30 12 0 22)) fun m31 =>
some m31)))
else ((mm_b1 (mm_loop (σ := mm_M) (ρ := (mm_M)) (fun (m33 : mm_M) => (mm_b1 (f_X12_byteAt (m33 12 0 22) m33) fun r34 =>
mm_b1 (f_X12_isLetter r34 m33) fun r35 =>
if r35 = 0 then (some (.inr m33))
else (mm_let (mm_w m33 12 0 22 ((m33 12 0 22) + 1)) fun m36 =>
some (.inl m36)) : Option ((mm_M) ⊕ ((mm_M))))) mm_fu m9) fun m37 =>
mm_let (mm_w m37 12 0 24 1) fun m38 =>
mm_let (mm_w m38 12 0 28 (m38 12 0 22)) fun m39 =>
some m39)))
else (mm_let (mm_w m9 12 0 24 0) fun m40 =>
mm_let (mm_w m40 12 0 28 (m40 12 0 22)) fun m41 =>
some m41))
set_option maxHeartbeats 4000000 in
set_option maxRecDepth 100000 in
theorem k_X12_step (d : Nat) (hd : 1 ≤ d)  (m : mm_M) (r : mm_M) (hres : f_X12_step  m = some r) : mm_X d 165 [.inr (.inr (some (12, 0)))] m (.inl none, r, 0, 0) := by
  unfold f_X12_step at hres
  obtain ⟨d, rfl⟩ : ∃ e, d = e + 1 := ⟨d - 1, by omega⟩
  show mm_E (d + 1) 165 (0, [some (.inr (.inr (some (12, 0)))), none, none], [], m) (.inl none, r, 0, 0)
  refine e_mask (L' := [some (.inr (.inr (some (12, 0)))), none, none]) rfl ?_
  refine e_loopb (φ := fun s => (0, [some (.inr (.inr (some (12, 0)))), none, none], [], s)) (K := fun t => mm_E (d + 1) 165 (39, [some (.inr (.inr (some (12, 0)))), none, none], [], t) (.inl none, r, 0, 0)) hres (fun m7 hres => ?_) (fun m2 ol1 hres hcl1 hxl1 => ?_)
  · show mm_E (d + 1) 165 (39, [some (.inr (.inr (some (12, 0)))), none, none], [], m7) (.inl none, r, 0, 0)
    refine e_steps 4 (s' := (47, [some (.inr (.inr (some (12, 0)))), none, none], [], (mm_w m7 12 0 27 (m7 12 0 22)))) rfl ?_
    refine e_let (fun (m8 : mm_M) => (47, [some (.inr (.inr (some (12, 0)))), none, none], [], m8)) hres (fun m8 hres => ?_)
    refine e_steps 3 (s' := (52, [some (.inr (.inr (some (12, 0)))), none, none], [], (mm_w m8 12 0 25 0))) rfl ?_
    refine e_let (fun (m9 : mm_M) => (52, [some (.inr (.inr (some (12, 0)))), none, none], [], m9)) hres (fun m9 hres => ?_)
    refine e_steps 3 (s' := (57, [some (.inr (.inr (some (12, 0)))), none, none], [.inl (m9 12 0 22), .inr (.inr (some (12, 0)))], m9)) rfl ?_
    obtain ⟨r10, hv, hres⟩ := mm_b1_some hres
    refine e_call0 (pc := 60) (L := [some (.inr (.inr (some (12, 0)))), none, none]) (st := []) (m' := m9) (v := some (.inl r10)) rfl (k_X12_byteAt d (by omega) (m9 12 0 22) _ _ hv) ?_
    show mm_E (d + 1) 165 (60, [some (.inr (.inr (some (12, 0)))), none, none], [.inl r10], m9) (.inl none, r, 0, 0)
    refine e_steps 3 (s' := (63, [some (.inr (.inr (some (12, 0)))), some (.inl r10), none], [.inl (-1), .inl r10], m9)) rfl ?_
    refine e_if (s1 := (74, [some (.inr (.inr (some (12, 0)))), some (.inl r10), none], [], m9)) (s2 := (66, [some (.inr (.inr (some (12, 0)))), some (.inl r10), none], [], m9)) rfl hres (fun hc hres => ?_) (fun hc hres => ?_)
    · refine e_steps 1 (s' := (75, [some (.inr (.inr (some (12, 0)))), some (.inl r10), none], [.inl r10], m9)) rfl ?_
      obtain ⟨r11, hv, hres⟩ := mm_b1_some hres
      refine e_call0 (pc := 78) (L := [some (.inr (.inr (some (12, 0)))), some (.inl r10), none]) (st := []) (m' := m9) (v := some (.inl r11)) rfl (k_X12_isLetter d (by omega) r10 _ _ hv) ?_
      show mm_E (d + 1) 165 (78, [some (.inr (.inr (some (12, 0)))), some (.inl r10), none], [.inl r11], m9) (.inl none, r, 0, 0)
      refine e_if (s1 := (116, [some (.inr (.inr (some (12, 0)))), some (.inl r10), none], [], m9)) (s2 := (81, [some (.inr (.inr (some (12, 0)))), some (.inl r10), none], [], m9)) rfl hres (fun hc hres => ?_) (fun hc hres => ?_)
      · refine e_steps 1 (s' := (117, [some (.inr (.inr (some (12, 0)))), some (.inl r10), none], [.inl r10], m9)) rfl ?_
        obtain ⟨r12, hv, hres⟩ := mm_b1_some hres
        refine e_call0 (pc := 120) (L := [some (.inr (.inr (some (12, 0)))), some (.inl r10), none]) (st := []) (m' := m9) (v := some (.inl r12)) rfl (k_X12_isDigit d (by omega) r10 _ _ hv) ?_
        show mm_E (d + 1) 165 (120, [some (.inr (.inr (some (12, 0)))), some (.inl r10), none], [.inl r12], m9) (.inl none, r, 0, 0)
        refine e_if (s1 := (192, [some (.inr (.inr (some (12, 0)))), some (.inl r10), none], [], m9)) (s2 := (123, [some (.inr (.inr (some (12, 0)))), some (.inl r10), none], [], m9)) rfl hres (fun hc hres => ?_) (fun hc hres => ?_)
        · refine e_steps 6 (s' := (202, [some (.inr (.inr (some (12, 0)))), some (.inl r10), none], [], (mm_w m9 12 0 22 ((m9 12 0 22) + 1)))) rfl ?_
          refine e_let (fun (m13 : mm_M) => (202, [some (.inr (.inr (some (12, 0)))), some (.inl r10), none], [], m13)) hres (fun m13 hres => ?_)
          refine e_steps 2 (s' := (205, [some (.inr (.inr (some (12, 0)))), some (.inl r10), none], [.inl 59, .inl r10], m13)) rfl ?_
          refine e_join (fun k15 => ∀ (w14 : Int32), k15 w14 = some r → mm_E (d + 1) 165 (261, [some (.inr (.inr (some (12, 0)))), some (.inl r10), none], [.inl w14], m13) (.inl none, r, 0, 0)) hres (fun w14 hres => ?_) (fun k15 hk15 hres => ?_)
          · refine e_steps 3 (s' := (264, [some (.inr (.inr (some (12, 0)))), some (.inl r10), some (.inl w14)], [.inl w14, .inr (.inr (some (12, 0)))], m13)) rfl ?_
            refine e_join (fun k17 => ∀ (w16 : Int32), k17 w16 = some r → mm_E (d + 1) 165 (272, [some (.inr (.inr (some (12, 0)))), some (.inl r10), none], [.inl w16, .inr (.inr (some (12, 0)))], m13) (.inl none, r, 0, 0)) hres (fun w16 hres => ?_) (fun k17 hk17 hres => ?_)
            · refine e_steps 1 (s' := (275, [some (.inr (.inr (some (12, 0)))), some (.inl r10), none], [], (mm_w m13 12 0 24 w16))) rfl ?_
              refine e_let (fun (m18 : mm_M) => (275, [some (.inr (.inr (some (12, 0)))), some (.inl r10), none], [], m18)) hres (fun m18 hres => ?_)
              refine e_steps 3 (s' := (280, [some (.inr (.inr (some (12, 0)))), some (.inl r10), none], [], (mm_w m18 12 0 25 r10))) rfl ?_
              refine e_let (fun (m19 : mm_M) => (280, [some (.inr (.inr (some (12, 0)))), some (.inl r10), none], [], m19)) hres (fun m19 hres => ?_)
              refine e_mask (L' := [some (.inr (.inr (some (12, 0)))), none, none]) rfl ?_
              refine e_steps 4 (s' := (288, [some (.inr (.inr (some (12, 0)))), none, none], [], (mm_w m19 12 0 28 (m19 12 0 22)))) rfl ?_
              refine e_let (fun (m20 : mm_M) => (288, [some (.inr (.inr (some (12, 0)))), none, none], [], m20)) hres (fun m20 hres => ?_)
              obtain rfl := Option.some.inj hres
              exact e_ret rfl rfl
            · refine e_if (s1 := (271, [some (.inr (.inr (some (12, 0)))), some (.inl r10), some (.inl w14)], [.inr (.inr (some (12, 0)))], m13)) (s2 := (267, [some (.inr (.inr (some (12, 0)))), some (.inl r10), some (.inl w14)], [.inr (.inr (some (12, 0)))], m13)) rfl hres (fun hc hres => ?_) (fun hc hres => ?_)
              · refine e_steps 1 (s' := (272, [some (.inr (.inr (some (12, 0)))), some (.inl r10), some (.inl w14)], [.inl 4, .inr (.inr (some (12, 0)))], m13)) rfl ?_
                exact e_mask (L' := [some (.inr (.inr (some (12, 0)))), some (.inl r10), none]) rfl (hk17 _ hres)
              · refine e_steps 2 (s' := (272, [some (.inr (.inr (some (12, 0)))), some (.inl r10), some (.inl w14)], [.inl 3, .inr (.inr (some (12, 0)))], m13)) rfl ?_
                exact e_mask (L' := [some (.inr (.inr (some (12, 0)))), some (.inl r10), none]) rfl (hk17 _ hres)
          · refine e_if (s1 := (256, [some (.inr (.inr (some (12, 0)))), some (.inl r10), none], [], m13)) (s2 := (208, [some (.inr (.inr (some (12, 0)))), some (.inl r10), none], [], m13)) rfl hres (fun hc hres => ?_) (fun hc hres => ?_)
            · refine e_steps 2 (s' := (261, [some (.inr (.inr (some (12, 0)))), some (.inl r10), none], [.inl 1], m13)) rfl ?_
              exact e_mask (L' := [some (.inr (.inr (some (12, 0)))), some (.inl r10), none]) rfl (hk15 _ hres)
            · refine e_steps 2 (s' := (211, [some (.inr (.inr (some (12, 0)))), some (.inl r10), none], [.inl 40, .inl r10], m13)) rfl ?_
              refine e_if (s1 := (256, [some (.inr (.inr (some (12, 0)))), some (.inl r10), none], [], m13)) (s2 := (214, [some (.inr (.inr (some (12, 0)))), some (.inl r10), none], [], m13)) rfl hres (fun hc hres => ?_) (fun hc hres => ?_)
              · refine e_steps 2 (s' := (261, [some (.inr (.inr (some (12, 0)))), some (.inl r10), none], [.inl 1], m13)) rfl ?_
                exact e_mask (L' := [some (.inr (.inr (some (12, 0)))), some (.inl r10), none]) rfl (hk15 _ hres)
              · refine e_steps 2 (s' := (217, [some (.inr (.inr (some (12, 0)))), some (.inl r10), none], [.inl 41, .inl r10], m13)) rfl ?_
                refine e_if (s1 := (256, [some (.inr (.inr (some (12, 0)))), some (.inl r10), none], [], m13)) (s2 := (220, [some (.inr (.inr (some (12, 0)))), some (.inl r10), none], [], m13)) rfl hres (fun hc hres => ?_) (fun hc hres => ?_)
                · refine e_steps 2 (s' := (261, [some (.inr (.inr (some (12, 0)))), some (.inl r10), none], [.inl 1], m13)) rfl ?_
                  exact e_mask (L' := [some (.inr (.inr (some (12, 0)))), some (.inl r10), none]) rfl (hk15 _ hres)
                · refine e_steps 2 (s' := (223, [some (.inr (.inr (some (12, 0)))), some (.inl r10), none], [.inl 43, .inl r10], m13)) rfl ?_
                  refine e_if (s1 := (256, [some (.inr (.inr (some (12, 0)))), some (.inl r10), none], [], m13)) (s2 := (226, [some (.inr (.inr (some (12, 0)))), some (.inl r10), none], [], m13)) rfl hres (fun hc hres => ?_) (fun hc hres => ?_)
                  · refine e_steps 2 (s' := (261, [some (.inr (.inr (some (12, 0)))), some (.inl r10), none], [.inl 1], m13)) rfl ?_
                    exact e_mask (L' := [some (.inr (.inr (some (12, 0)))), some (.inl r10), none]) rfl (hk15 _ hres)
                  · refine e_steps 2 (s' := (229, [some (.inr (.inr (some (12, 0)))), some (.inl r10), none], [.inl 45, .inl r10], m13)) rfl ?_
                    refine e_if (s1 := (256, [some (.inr (.inr (some (12, 0)))), some (.inl r10), none], [], m13)) (s2 := (232, [some (.inr (.inr (some (12, 0)))), some (.inl r10), none], [], m13)) rfl hres (fun hc hres => ?_) (fun hc hres => ?_)
                    · refine e_steps 2 (s' := (261, [some (.inr (.inr (some (12, 0)))), some (.inl r10), none], [.inl 1], m13)) rfl ?_
                      exact e_mask (L' := [some (.inr (.inr (some (12, 0)))), some (.inl r10), none]) rfl (hk15 _ hres)
                    · refine e_steps 2 (s' := (235, [some (.inr (.inr (some (12, 0)))), some (.inl r10), none], [.inl 42, .inl r10], m13)) rfl ?_
                      refine e_if (s1 := (256, [some (.inr (.inr (some (12, 0)))), some (.inl r10), none], [], m13)) (s2 := (238, [some (.inr (.inr (some (12, 0)))), some (.inl r10), none], [], m13)) rfl hres (fun hc hres => ?_) (fun hc hres => ?_)
                      · refine e_steps 2 (s' := (261, [some (.inr (.inr (some (12, 0)))), some (.inl r10), none], [.inl 1], m13)) rfl ?_
                        exact e_mask (L' := [some (.inr (.inr (some (12, 0)))), some (.inl r10), none]) rfl (hk15 _ hres)
                      · refine e_steps 2 (s' := (241, [some (.inr (.inr (some (12, 0)))), some (.inl r10), none], [.inl 47, .inl r10], m13)) rfl ?_
                        refine e_if (s1 := (256, [some (.inr (.inr (some (12, 0)))), some (.inl r10), none], [], m13)) (s2 := (244, [some (.inr (.inr (some (12, 0)))), some (.inl r10), none], [], m13)) rfl hres (fun hc hres => ?_) (fun hc hres => ?_)
                        · refine e_steps 2 (s' := (261, [some (.inr (.inr (some (12, 0)))), some (.inl r10), none], [.inl 1], m13)) rfl ?_
                          exact e_mask (L' := [some (.inr (.inr (some (12, 0)))), some (.inl r10), none]) rfl (hk15 _ hres)
                        · refine e_steps 2 (s' := (247, [some (.inr (.inr (some (12, 0)))), some (.inl r10), none], [.inl 60, .inl r10], m13)) rfl ?_
                          refine e_if (s1 := (256, [some (.inr (.inr (some (12, 0)))), some (.inl r10), none], [], m13)) (s2 := (250, [some (.inr (.inr (some (12, 0)))), some (.inl r10), none], [], m13)) rfl hres (fun hc hres => ?_) (fun hc hres => ?_)
                          · refine e_steps 2 (s' := (261, [some (.inr (.inr (some (12, 0)))), some (.inl r10), none], [.inl 1], m13)) rfl ?_
                            exact e_mask (L' := [some (.inr (.inr (some (12, 0)))), some (.inl r10), none]) rfl (hk15 _ hres)
                          · refine e_steps 2 (s' := (253, [some (.inr (.inr (some (12, 0)))), some (.inl r10), none], [.inl 61, .inl r10], m13)) rfl ?_
                            refine e_if (s1 := (260, [some (.inr (.inr (some (12, 0)))), some (.inl r10), none], [], m13)) (s2 := (256, [some (.inr (.inr (some (12, 0)))), some (.inl r10), none], [], m13)) rfl hres (fun hc hres => ?_) (fun hc hres => ?_)
                            · refine e_steps 1 (s' := (261, [some (.inr (.inr (some (12, 0)))), some (.inl r10), none], [.inl 0], m13)) rfl ?_
                              exact e_mask (L' := [some (.inr (.inr (some (12, 0)))), some (.inl r10), none]) rfl (hk15 _ hres)
                            · refine e_steps 2 (s' := (261, [some (.inr (.inr (some (12, 0)))), some (.inl r10), none], [.inl 1], m13)) rfl ?_
                              exact e_mask (L' := [some (.inr (.inr (some (12, 0)))), some (.inl r10), none]) rfl (hk15 _ hres)
        · refine e_steps 3 (s' := (128, [some (.inr (.inr (some (12, 0)))), some (.inl r10), none], [], (mm_w m9 12 0 26 0))) rfl ?_
          refine e_let (fun (m21 : mm_M) => (128, [some (.inr (.inr (some (12, 0)))), some (.inl r10), none], [], m21)) hres (fun m21 hres => ?_)
          refine e_mask (L' := [some (.inr (.inr (some (12, 0)))), none, none]) rfl ?_
          refine e_loopb (φ := fun s => (128, [some (.inr (.inr (some (12, 0)))), none, none], [], s)) (K := fun t => mm_E (d + 1) 165 (184, [some (.inr (.inr (some (12, 0)))), none, none], [], t) (.inl none, r, 0, 0)) hres (fun m29 hres => ?_) (fun m23 ol22 hres hcl22 hxl22 => ?_)
          · show mm_E (d + 1) 165 (184, [some (.inr (.inr (some (12, 0)))), none, none], [], m29) (.inl none, r, 0, 0)
            refine e_steps 3 (s' := (189, [some (.inr (.inr (some (12, 0)))), none, none], [], (mm_w m29 12 0 24 2))) rfl ?_
            refine e_let (fun (m30 : mm_M) => (189, [some (.inr (.inr (some (12, 0)))), none, none], [], m30)) hres (fun m30 hres => ?_)
            refine e_steps 5 (s' := (288, [some (.inr (.inr (some (12, 0)))), none, none], [], (mm_w m30 12 0 28 (m30 12 0 22)))) rfl ?_
            refine e_let (fun (m31 : mm_M) => (288, [some (.inr (.inr (some (12, 0)))), none, none], [], m31)) hres (fun m31 hres => ?_)
            obtain rfl := Option.some.inj hres
            exact e_ret rfl rfl
          · show mm_E (d + 1) 165 (128, [some (.inr (.inr (some (12, 0)))), none, none], [], m23) (.inl none, r, 0, 0)
            refine e_steps 3 (s' := (133, [some (.inr (.inr (some (12, 0)))), none, none], [.inl (m23 12 0 22), .inr (.inr (some (12, 0)))], m23)) rfl ?_
            obtain ⟨r24, hv, hres⟩ := mm_b1_some hres
            refine e_call0 (pc := 136) (L := [some (.inr (.inr (some (12, 0)))), none, none]) (st := []) (m' := m23) (v := some (.inl r24)) rfl (k_X12_byteAt d (by omega) (m23 12 0 22) _ _ hv) ?_
            show mm_E (d + 1) 165 (136, [some (.inr (.inr (some (12, 0)))), none, none], [.inl r24], m23) (.inl none, r, 0, 0)
            obtain ⟨r25, hv, hres⟩ := mm_b1_some hres
            refine e_call0 (pc := 139) (L := [some (.inr (.inr (some (12, 0)))), none, none]) (st := []) (m' := m23) (v := some (.inl r25)) rfl (k_X12_isDigit d (by omega) r24 _ _ hv) ?_
            show mm_E (d + 1) 165 (139, [some (.inr (.inr (some (12, 0)))), none, none], [.inl r25], m23) (.inl none, r, 0, 0)
            refine e_if (s1 := (184, [some (.inr (.inr (some (12, 0)))), none, none], [], m23)) (s2 := (142, [some (.inr (.inr (some (12, 0)))), none, none], [], m23)) rfl hres (fun hc hres => ?_) (fun hc hres => ?_)
            · obtain rfl := Option.some.inj hres
              exact e_mask (L' := [some (.inr (.inr (some (12, 0)))), none, none]) rfl (hxl22 _ rfl)
            · refine e_steps 9 (s' := (158, [some (.inr (.inr (some (12, 0)))), none, none], [.inl (m23 12 0 22), .inr (.inr (some (12, 0))), .inl (10 * (m23 12 0 26)), .inl 1000000, .inr (.inr (some (12, 0)))], m23)) rfl ?_
              obtain ⟨r26, hv, hres⟩ := mm_b1_some hres
              refine e_call0 (pc := 161) (L := [some (.inr (.inr (some (12, 0)))), none, none]) (st := [.inl (10 * (m23 12 0 26)), .inl 1000000, .inr (.inr (some (12, 0)))]) (m' := m23) (v := some (.inl r26)) rfl (k_X12_byteAt d (by omega) (m23 12 0 22) _ _ hv) ?_
              show mm_E (d + 1) 165 (161, [some (.inr (.inr (some (12, 0)))), none, none], [.inl r26, .inl (10 * (m23 12 0 26)), .inl 1000000, .inr (.inr (some (12, 0)))], m23) (.inl none, r, 0, 0)
              refine e_steps 5 (s' := (171, [some (.inr (.inr (some (12, 0)))), none, none], [], (mm_w m23 12 0 26 (mm_min 1000000 (((10 * (m23 12 0 26)) + r26) - 48))))) rfl ?_
              refine e_let (fun (m27 : mm_M) => (171, [some (.inr (.inr (some (12, 0)))), none, none], [], m27)) hres (fun m27 hres => ?_)
              refine e_steps 6 (s' := (181, [some (.inr (.inr (some (12, 0)))), none, none], [], (mm_w m27 12 0 22 ((m27 12 0 22) + 1)))) rfl ?_
              refine e_let (fun (m28 : mm_M) => (181, [some (.inr (.inr (some (12, 0)))), none, none], [], m28)) hres (fun m28 hres => ?_)
              refine e_steps 1 (s' := (128, [some (.inr (.inr (some (12, 0)))), none, none], [], m28)) rfl ?_
              obtain rfl := Option.some.inj hres
              exact e_mask (L' := [some (.inr (.inr (some (12, 0)))), none, none]) rfl (hcl22 _ rfl)
      · refine e_mask (L' := [some (.inr (.inr (some (12, 0)))), none, none]) rfl ?_
        refine e_loopb (φ := fun s => (81, [some (.inr (.inr (some (12, 0)))), none, none], [], s)) (K := fun t => mm_E (d + 1) 165 (108, [some (.inr (.inr (some (12, 0)))), none, none], [], t) (.inl none, r, 0, 0)) hres (fun m37 hres => ?_) (fun m33 ol32 hres hcl32 hxl32 => ?_)
        · show mm_E (d + 1) 165 (108, [some (.inr (.inr (some (12, 0)))), none, none], [], m37) (.inl none, r, 0, 0)
          refine e_steps 3 (s' := (113, [some (.inr (.inr (some (12, 0)))), none, none], [], (mm_w m37 12 0 24 1))) rfl ?_
          refine e_let (fun (m38 : mm_M) => (113, [some (.inr (.inr (some (12, 0)))), none, none], [], m38)) hres (fun m38 hres => ?_)
          refine e_steps 5 (s' := (288, [some (.inr (.inr (some (12, 0)))), none, none], [], (mm_w m38 12 0 28 (m38 12 0 22)))) rfl ?_
          refine e_let (fun (m39 : mm_M) => (288, [some (.inr (.inr (some (12, 0)))), none, none], [], m39)) hres (fun m39 hres => ?_)
          obtain rfl := Option.some.inj hres
          exact e_ret rfl rfl
        · show mm_E (d + 1) 165 (81, [some (.inr (.inr (some (12, 0)))), none, none], [], m33) (.inl none, r, 0, 0)
          refine e_steps 3 (s' := (86, [some (.inr (.inr (some (12, 0)))), none, none], [.inl (m33 12 0 22), .inr (.inr (some (12, 0)))], m33)) rfl ?_
          obtain ⟨r34, hv, hres⟩ := mm_b1_some hres
          refine e_call0 (pc := 89) (L := [some (.inr (.inr (some (12, 0)))), none, none]) (st := []) (m' := m33) (v := some (.inl r34)) rfl (k_X12_byteAt d (by omega) (m33 12 0 22) _ _ hv) ?_
          show mm_E (d + 1) 165 (89, [some (.inr (.inr (some (12, 0)))), none, none], [.inl r34], m33) (.inl none, r, 0, 0)
          obtain ⟨r35, hv, hres⟩ := mm_b1_some hres
          refine e_call0 (pc := 92) (L := [some (.inr (.inr (some (12, 0)))), none, none]) (st := []) (m' := m33) (v := some (.inl r35)) rfl (k_X12_isLetter d (by omega) r34 _ _ hv) ?_
          show mm_E (d + 1) 165 (92, [some (.inr (.inr (some (12, 0)))), none, none], [.inl r35], m33) (.inl none, r, 0, 0)
          refine e_if (s1 := (108, [some (.inr (.inr (some (12, 0)))), none, none], [], m33)) (s2 := (95, [some (.inr (.inr (some (12, 0)))), none, none], [], m33)) rfl hres (fun hc hres => ?_) (fun hc hres => ?_)
          · obtain rfl := Option.some.inj hres
            exact e_mask (L' := [some (.inr (.inr (some (12, 0)))), none, none]) rfl (hxl32 _ rfl)
          · refine e_steps 6 (s' := (105, [some (.inr (.inr (some (12, 0)))), none, none], [], (mm_w m33 12 0 22 ((m33 12 0 22) + 1)))) rfl ?_
            refine e_let (fun (m36 : mm_M) => (105, [some (.inr (.inr (some (12, 0)))), none, none], [], m36)) hres (fun m36 hres => ?_)
            refine e_steps 1 (s' := (81, [some (.inr (.inr (some (12, 0)))), none, none], [], m36)) rfl ?_
            obtain rfl := Option.some.inj hres
            exact e_mask (L' := [some (.inr (.inr (some (12, 0)))), none, none]) rfl (hcl32 _ rfl)
    · refine e_steps 3 (s' := (71, [some (.inr (.inr (some (12, 0)))), some (.inl r10), none], [], (mm_w m9 12 0 24 0))) rfl ?_
      refine e_let (fun (m40 : mm_M) => (71, [some (.inr (.inr (some (12, 0)))), some (.inl r10), none], [], m40)) hres (fun m40 hres => ?_)
      refine e_steps 1 (s' := (280, [some (.inr (.inr (some (12, 0)))), some (.inl r10), none], [], m40)) rfl ?_
      refine e_mask (L' := [some (.inr (.inr (some (12, 0)))), none, none]) rfl ?_
      refine e_steps 4 (s' := (288, [some (.inr (.inr (some (12, 0)))), none, none], [], (mm_w m40 12 0 28 (m40 12 0 22)))) rfl ?_
      refine e_let (fun (m41 : mm_M) => (288, [some (.inr (.inr (some (12, 0)))), none, none], [], m41)) hres (fun m41 hres => ?_)
      obtain rfl := Option.some.inj hres
      exact e_ret rfl rfl
  · show mm_E (d + 1) 165 (0, [some (.inr (.inr (some (12, 0)))), none, none], [], m2) (.inl none, r, 0, 0)
    refine e_steps 3 (s' := (5, [some (.inr (.inr (some (12, 0)))), none, none], [.inl (m2 12 0 22), .inr (.inr (some (12, 0)))], m2)) rfl ?_
    obtain ⟨r3, hv, hres⟩ := mm_b1_some hres
    refine e_call0 (pc := 8) (L := [some (.inr (.inr (some (12, 0)))), none, none]) (st := []) (m' := m2) (v := some (.inl r3)) rfl (k_X12_byteAt d (by omega) (m2 12 0 22) _ _ hv) ?_
    show mm_E (d + 1) 165 (8, [some (.inr (.inr (some (12, 0)))), none, none], [.inl r3], m2) (.inl none, r, 0, 0)
    refine e_steps 1 (s' := (10, [some (.inr (.inr (some (12, 0)))), none, none], [.inl 32, .inl r3], m2)) rfl ?_
    refine e_join (fun k4 => k4 = some ol1 → mm_E (d + 1) 165 (26, [some (.inr (.inr (some (12, 0)))), none, none], [], m2) (.inl none, r, 0, 0)) hres (fun  hres => ?_) (fun k4 hk4 hres => ?_)
    · refine e_steps 6 (s' := (36, [some (.inr (.inr (some (12, 0)))), none, none], [], (mm_w m2 12 0 22 ((m2 12 0 22) + 1)))) rfl ?_
      refine e_let (fun (m5 : mm_M) => (36, [some (.inr (.inr (some (12, 0)))), none, none], [], m5)) hres (fun m5 hres => ?_)
      refine e_steps 1 (s' := (0, [some (.inr (.inr (some (12, 0)))), none, none], [], m5)) rfl ?_
      obtain rfl := Option.some.inj hres
      exact e_mask (L' := [some (.inr (.inr (some (12, 0)))), none, none]) rfl (hcl1 _ rfl)
    · refine e_if (s1 := (26, [some (.inr (.inr (some (12, 0)))), none, none], [], m2)) (s2 := (13, [some (.inr (.inr (some (12, 0)))), none, none], [], m2)) rfl hres (fun hc hres => ?_) (fun hc hres => ?_)
      · exact e_mask (L' := [some (.inr (.inr (some (12, 0)))), none, none]) rfl (hk4  hres)
      · refine e_steps 3 (s' := (18, [some (.inr (.inr (some (12, 0)))), none, none], [.inl (m2 12 0 22), .inr (.inr (some (12, 0)))], m2)) rfl ?_
        obtain ⟨r6, hv, hres⟩ := mm_b1_some hres
        refine e_call0 (pc := 21) (L := [some (.inr (.inr (some (12, 0)))), none, none]) (st := []) (m' := m2) (v := some (.inl r6)) rfl (k_X12_byteAt d (by omega) (m2 12 0 22) _ _ hv) ?_
        show mm_E (d + 1) 165 (21, [some (.inr (.inr (some (12, 0)))), none, none], [.inl r6], m2) (.inl none, r, 0, 0)
        refine e_steps 1 (s' := (23, [some (.inr (.inr (some (12, 0)))), none, none], [.inl 10, .inl r6], m2)) rfl ?_
        refine e_if (s1 := (39, [some (.inr (.inr (some (12, 0)))), none, none], [], m2)) (s2 := (26, [some (.inr (.inr (some (12, 0)))), none, none], [], m2)) rfl hres (fun hc hres => ?_) (fun hc hres => ?_)
        · obtain rfl := Option.some.inj hres
          exact e_mask (L' := [some (.inr (.inr (some (12, 0)))), none, none]) rfl (hxl1 _ rfl)
        · exact e_mask (L' := [some (.inr (.inr (some (12, 0)))), none, none]) rfl (hk4  hres)
/-- GlassThreadsModel.begin(I)V -/
def f_X12_begin (a1 : Int32) (m : mm_M) : Option (mm_M) :=
mm_let (mm_w m 12 0 21 0) fun m1 =>
mm_let (mm_w m1 12 0 23 a1) fun m2 =>
mm_let (mm_w m2 12 0 22 0) fun m3 =>
mm_let (mm_w m3 12 0 29 0) fun m4 =>
mm_let (mm_w m4 12 0 31 (-1)) fun m5 =>
mm_b1 (f_X12_step m5) fun m7 =>
some m7
set_option maxHeartbeats 4000000 in
set_option maxRecDepth 100000 in
theorem k_X12_begin (d : Nat) (hd : 2 ≤ d) (a1 : Int32) (m : mm_M) (r : mm_M) (hres : f_X12_begin a1 m = some r) : mm_X d 166 [.inr (.inr (some (12, 0))), .inl a1] m (.inl none, r, 0, 0) := by
  unfold f_X12_begin at hres
  obtain ⟨d, rfl⟩ : ∃ e, d = e + 1 := ⟨d - 1, by omega⟩
  show mm_E (d + 1) 166 (0, [some (.inr (.inr (some (12, 0)))), some (.inl a1)], [], m) (.inl none, r, 0, 0)
  refine e_steps 3 (s' := (5, [some (.inr (.inr (some (12, 0)))), some (.inl a1)], [], (mm_w m 12 0 21 0))) rfl ?_
  refine e_let (fun (m1 : mm_M) => (5, [some (.inr (.inr (some (12, 0)))), some (.inl a1)], [], m1)) hres (fun m1 hres => ?_)
  refine e_steps 3 (s' := (10, [some (.inr (.inr (some (12, 0)))), some (.inl a1)], [], (mm_w m1 12 0 23 a1))) rfl ?_
  refine e_let (fun (m2 : mm_M) => (10, [some (.inr (.inr (some (12, 0)))), some (.inl a1)], [], m2)) hres (fun m2 hres => ?_)
  refine e_steps 3 (s' := (15, [some (.inr (.inr (some (12, 0)))), some (.inl a1)], [], (mm_w m2 12 0 22 0))) rfl ?_
  refine e_let (fun (m3 : mm_M) => (15, [some (.inr (.inr (some (12, 0)))), some (.inl a1)], [], m3)) hres (fun m3 hres => ?_)
  refine e_steps 3 (s' := (20, [some (.inr (.inr (some (12, 0)))), some (.inl a1)], [], (mm_w m3 12 0 29 0))) rfl ?_
  refine e_let (fun (m4 : mm_M) => (20, [some (.inr (.inr (some (12, 0)))), some (.inl a1)], [], m4)) hres (fun m4 hres => ?_)
  refine e_steps 3 (s' := (25, [some (.inr (.inr (some (12, 0)))), some (.inl a1)], [], (mm_w m4 12 0 31 (-1)))) rfl ?_
  refine e_let (fun (m5 : mm_M) => (25, [some (.inr (.inr (some (12, 0)))), some (.inl a1)], [], m5)) hres (fun m5 hres => ?_)
  refine e_steps 1 (s' := (26, [some (.inr (.inr (some (12, 0)))), some (.inl a1)], [.inr (.inr (some (12, 0)))], m5)) rfl ?_
  obtain ⟨m7, hv, hres⟩ := mm_b1_some hres
  refine e_call0 (pc := 29) (L := [some (.inr (.inr (some (12, 0)))), some (.inl a1)]) (st := []) (m' := m7) (v := none) rfl (k_X12_step d (by omega)  _ _ hv) ?_
  show mm_E (d + 1) 166 (29, [some (.inr (.inr (some (12, 0)))), some (.inl a1)], [], m7) (.inl none, r, 0, 0)
  obtain rfl := Option.some.inj hres
  exact e_ret rfl rfl
/-- GlassThreadsModel.wrong(I)V -/
def f_X12_wrong (a1 : Int32) (m : mm_M) : Option (mm_M) :=
if (m 12 0 29) = 0 then (mm_let (mm_w m 12 0 29 a1) fun m1 =>
mm_let (mm_w m1 12 0 30 (m1 12 0 27)) fun m2 =>
some m2)
else (some m)
set_option maxHeartbeats 4000000 in
set_option maxRecDepth 100000 in
theorem k_X12_wrong (d : Nat) (hd : 0 ≤ d) (a1 : Int32) (m : mm_M) (r : mm_M) (hres : f_X12_wrong a1 m = some r) : mm_X d 167 [.inr (.inr (some (12, 0))), .inl a1] m (.inl none, r, 0, 0) := by
  unfold f_X12_wrong at hres
  show mm_E d 167 (0, [some (.inr (.inr (some (12, 0)))), some (.inl a1)], [], m) (.inl none, r, 0, 0)
  refine e_steps 2 (s' := (4, [some (.inr (.inr (some (12, 0)))), some (.inl a1)], [.inl (m 12 0 29)], m)) rfl ?_
  refine e_if (s1 := (8, [some (.inr (.inr (some (12, 0)))), some (.inl a1)], [], m)) (s2 := (7, [some (.inr (.inr (some (12, 0)))), some (.inl a1)], [], m)) rfl hres (fun hc hres => ?_) (fun hc hres => ?_)
  · refine e_steps 3 (s' := (13, [some (.inr (.inr (some (12, 0)))), some (.inl a1)], [], (mm_w m 12 0 29 a1))) rfl ?_
    refine e_let (fun (m1 : mm_M) => (13, [some (.inr (.inr (some (12, 0)))), some (.inl a1)], [], m1)) hres (fun m1 hres => ?_)
    refine e_steps 4 (s' := (21, [some (.inr (.inr (some (12, 0)))), some (.inl a1)], [], (mm_w m1 12 0 30 (m1 12 0 27)))) rfl ?_
    refine e_let (fun (m2 : mm_M) => (21, [some (.inr (.inr (some (12, 0)))), some (.inl a1)], [], m2)) hres (fun m2 hres => ?_)
    obtain rfl := Option.some.inj hres
    exact e_ret rfl rfl
  · obtain rfl := Option.some.inj hres
    exact e_ret rfl rfl
/-- GlassThreadsModel.isSign(I)Z -/
def f_X12_isSign (a1 : Int32) (m : mm_M) : Option (Int32) :=
if (m 12 0 29) ≠ 0 then (some 0)
else (if (m 12 0 24) ≠ 3 then (some 0)
else (if (m 12 0 25) ≠ a1 then (some 0)
else (some 1)))
set_option maxHeartbeats 4000000 in
set_option maxRecDepth 100000 in
theorem k_X12_isSign (d : Nat) (hd : 0 ≤ d) (a1 : Int32) (m : mm_M) (r : Int32) (hres : f_X12_isSign a1 m = some r) : mm_X d 168 [.inr (.inr (some (12, 0))), .inl a1] m (.inl (some (.inl r)), m, 0, 0) := by
  unfold f_X12_isSign at hres
  show mm_E d 168 (0, [some (.inr (.inr (some (12, 0)))), some (.inl a1)], [], m) (.inl (some (.inl r)), m, 0, 0)
  refine e_steps 2 (s' := (4, [some (.inr (.inr (some (12, 0)))), some (.inl a1)], [.inl (m 12 0 29)], m)) rfl ?_
  refine e_if (s1 := (27, [some (.inr (.inr (some (12, 0)))), some (.inl a1)], [], m)) (s2 := (7, [some (.inr (.inr (some (12, 0)))), some (.inl a1)], [], m)) rfl hres (fun hc hres => ?_) (fun hc hres => ?_)
  · refine e_mask (L' := [none, none]) rfl ?_
    refine e_steps 1 (s' := (28, [none, none], [.inl 0], m)) rfl ?_
    obtain rfl := Option.some.inj hres
    exact e_ret rfl rfl
  · refine e_steps 3 (s' := (12, [some (.inr (.inr (some (12, 0)))), some (.inl a1)], [.inl 3, .inl (m 12 0 24)], m)) rfl ?_
    refine e_if (s1 := (27, [some (.inr (.inr (some (12, 0)))), some (.inl a1)], [], m)) (s2 := (15, [some (.inr (.inr (some (12, 0)))), some (.inl a1)], [], m)) rfl hres (fun hc hres => ?_) (fun hc hres => ?_)
    · refine e_mask (L' := [none, none]) rfl ?_
      refine e_steps 1 (s' := (28, [none, none], [.inl 0], m)) rfl ?_
      obtain rfl := Option.some.inj hres
      exact e_ret rfl rfl
    · refine e_steps 3 (s' := (20, [some (.inr (.inr (some (12, 0)))), some (.inl a1)], [.inl a1, .inl (m 12 0 25)], m)) rfl ?_
      refine e_if (s1 := (27, [some (.inr (.inr (some (12, 0)))), some (.inl a1)], [], m)) (s2 := (23, [some (.inr (.inr (some (12, 0)))), some (.inl a1)], [], m)) rfl hres (fun hc hres => ?_) (fun hc hres => ?_)
      · refine e_mask (L' := [none, none]) rfl ?_
        refine e_steps 1 (s' := (28, [none, none], [.inl 0], m)) rfl ?_
        obtain rfl := Option.some.inj hres
        exact e_ret rfl rfl
      · refine e_steps 2 (s' := (28, [some (.inr (.inr (some (12, 0)))), some (.inl a1)], [.inl 1], m)) rfl ?_
        refine e_mask (L' := [none, none]) rfl ?_
        obtain rfl := Option.some.inj hres
        exact e_ret rfl rfl
/-- GlassThreadsModel.is(Ljava/lang/String;)Z -/
def f_X12_is (i1 : Nat) (m : mm_M) : Option (Int32) :=
if (m 12 0 29) ≠ 0 then ((mm_b1 (mm_loop (σ := Int32 × Int32) (ρ := (Int32)) (fun (s : Int32 × Int32) => match s with
| (v2, v3) => (if v2 = 0 then (some (.inr v2))
else (if (Int32.ofNat (mm_txt i1).length) ≤ v3 then (some (.inr v2))
else (if mm_in v3 (mm_txt i1).length then (
if mm_in ((m 12 0 27) + v3) 400 then (
if (Int32.ofNat ((mm_txt i1).getD v3.toNatClampNeg ' ').toNat) ≠ (m 80 0 ((m 12 0 27) + v3).toNatClampNeg) then (mm_let (v3 + 1) fun v4 =>
some (.inl (0, v4)))
else (mm_let (v3 + 1) fun v5 =>
some (.inl (1, v5)))) else none) else none)) : Option ((Int32 × Int32) ⊕ ((Int32))))) mm_fu (0, 0)) fun v6 =>
if v6 = 0 ∨ v6 = 1 then some v6 else none))
else (if (m 12 0 24) ≠ 1 then ((mm_b1 (mm_loop (σ := Int32 × Int32) (ρ := (Int32)) (fun (s : Int32 × Int32) => match s with
| (v8, v9) => (if v8 = 0 then (some (.inr v8))
else (if (Int32.ofNat (mm_txt i1).length) ≤ v9 then (some (.inr v8))
else (if mm_in v9 (mm_txt i1).length then (
if mm_in ((m 12 0 27) + v9) 400 then (
if (Int32.ofNat ((mm_txt i1).getD v9.toNatClampNeg ' ').toNat) ≠ (m 80 0 ((m 12 0 27) + v9).toNatClampNeg) then (mm_let (v9 + 1) fun v10 =>
some (.inl (0, v10)))
else (mm_let (v9 + 1) fun v11 =>
some (.inl (1, v11)))) else none) else none)) : Option ((Int32 × Int32) ⊕ ((Int32))))) mm_fu (0, 0)) fun v12 =>
if v12 = 0 ∨ v12 = 1 then some v12 else none))
else (if (Int32.ofNat (mm_txt i1).length) ≠ ((m 12 0 28) - (m 12 0 27)) then ((mm_b1 (mm_loop (σ := Int32 × Int32) (ρ := (Int32)) (fun (s : Int32 × Int32) => match s with
| (v14, v15) => (if v14 = 0 then (some (.inr v14))
else (if (Int32.ofNat (mm_txt i1).length) ≤ v15 then (some (.inr v14))
else (if mm_in v15 (mm_txt i1).length then (
if mm_in ((m 12 0 27) + v15) 400 then (
if (Int32.ofNat ((mm_txt i1).getD v15.toNatClampNeg ' ').toNat) ≠ (m 80 0 ((m 12 0 27) + v15).toNatClampNeg) then (mm_let (v15 + 1) fun v16 =>
some (.inl (0, v16)))
else (mm_let (v15 + 1) fun v17 =>
some (.inl (1, v17)))) else none) else none)) : Option ((Int32 × Int32) ⊕ ((Int32))))) mm_fu (0, 0)) fun v18 =>
if v18 = 0 ∨ v18 = 1 then some v18 else none))
else ((mm_b1 (mm_loop (σ := Int32 × Int32) (ρ := (Int32)) (fun (s : Int32 × Int32) => match s with
| (v20, v21) => (if v20 = 0 then (some (.inr v20))
else (if (Int32.ofNat (mm_txt i1).length) ≤ v21 then (some (.inr v20))
else (if mm_in v21 (mm_txt i1).length then (
if mm_in ((m 12 0 27) + v21) 400 then (
if (Int32.ofNat ((mm_txt i1).getD v21.toNatClampNeg ' ').toNat) ≠ (m 80 0 ((m 12 0 27) + v21).toNatClampNeg) then (mm_let (v21 + 1) fun v22 =>
some (.inl (0, v22)))
else (mm_let (v21 + 1) fun v23 =>
some (.inl (1, v23)))) else none) else none)) : Option ((Int32 × Int32) ⊕ ((Int32))))) mm_fu (1, 0)) fun v24 =>
if v24 = 0 ∨ v24 = 1 then some v24 else none))))
set_option maxHeartbeats 4000000 in
set_option maxRecDepth 100000 in
theorem k_X12_is (d : Nat) (hd : 0 ≤ d) (i1 : Nat) (m : mm_M) (r : Int32) (hres : f_X12_is i1 m = some r) : mm_X d 169 [.inr (.inr (some (12, 0))), .inr (.inr (some (135, i1)))] m (.inl (some (.inl r)), m, 0, 0) := by
  unfold f_X12_is at hres
  show mm_E d 169 (0, [some (.inr (.inr (some (12, 0)))), some (.inr (.inr (some (135, i1)))), none, none], [], m) (.inl (some (.inl r)), m, 0, 0)
  refine e_steps 2 (s' := (4, [some (.inr (.inr (some (12, 0)))), some (.inr (.inr (some (135, i1)))), none, none], [.inl (m 12 0 29)], m)) rfl ?_
  refine e_if (s1 := (35, [some (.inr (.inr (some (12, 0)))), some (.inr (.inr (some (135, i1)))), none, none], [], m)) (s2 := (7, [some (.inr (.inr (some (12, 0)))), some (.inr (.inr (some (135, i1)))), none, none], [], m)) rfl hres (fun hc hres => ?_) (fun hc hres => ?_)
  · refine e_steps 4 (s' := (39, [some (.inr (.inr (some (12, 0)))), some (.inr (.inr (some (135, i1)))), some (.inl 0), some (.inl 0)], [], m)) rfl ?_
    refine e_mask (L' := [some (.inr (.inr (some (12, 0)))), some (.inr (.inr (some (135, i1)))), some (.inl 0), some (.inl 0)]) rfl ?_
    refine e_loopb (φ := fun s => (39, [some (.inr (.inr (some (12, 0)))), some (.inr (.inr (some (135, i1)))), some (.inl s.1), some (.inl s.2)], [], m)) (K := fun t => mm_E d 169 (82, [none, none, some (.inl t), none], [], m) (.inl (some (.inl r)), m, 0, 0)) hres (fun v6 hres => ?_) (fun s ol1 hres hcl1 hxl1 => ?_)
    · show mm_E d 169 (82, [none, none, some (.inl v6), none], [], m) (.inl (some (.inl r)), m, 0, 0)
      refine e_steps 1 (s' := (83, [none, none, some (.inl v6), none], [.inl v6], m)) rfl ?_
      refine e_gr (o := .inl (some (.inl v6))) rfl hres (fun hc hres => ?_)
      obtain rfl := Option.some.inj hres
      rfl
    · obtain ⟨v2, v3⟩ := s
      show mm_E d 169 (39, [some (.inr (.inr (some (12, 0)))), some (.inr (.inr (some (135, i1)))), some (.inl v2), some (.inl v3)], [], m) (.inl (some (.inl r)), m, 0, 0)
      refine e_steps 1 (s' := (40, [some (.inr (.inr (some (12, 0)))), some (.inr (.inr (some (135, i1)))), some (.inl v2), some (.inl v3)], [.inl v2], m)) rfl ?_
      refine e_if (s1 := (82, [some (.inr (.inr (some (12, 0)))), some (.inr (.inr (some (135, i1)))), some (.inl v2), some (.inl v3)], [], m)) (s2 := (43, [some (.inr (.inr (some (12, 0)))), some (.inr (.inr (some (135, i1)))), some (.inl v2), some (.inl v3)], [], m)) rfl hres (fun hc hres => ?_) (fun hc hres => ?_)
      · obtain rfl := Option.some.inj hres
        exact e_mask (L' := [none, none, some (.inl v2), none]) rfl (hxl1 _ rfl)
      · refine e_steps 3 (s' := (48, [some (.inr (.inr (some (12, 0)))), some (.inr (.inr (some (135, i1)))), some (.inl v2), some (.inl v3)], [.inl (Int32.ofNat (mm_txt i1).length), .inl v3], m)) rfl ?_
        refine e_if (s1 := (82, [some (.inr (.inr (some (12, 0)))), some (.inr (.inr (some (135, i1)))), some (.inl v2), some (.inl v3)], [], m)) (s2 := (51, [some (.inr (.inr (some (12, 0)))), some (.inr (.inr (some (135, i1)))), some (.inl v2), some (.inl v3)], [], m)) rfl hres (fun hc hres => ?_) (fun hc hres => ?_)
        · obtain rfl := Option.some.inj hres
          exact e_mask (L' := [none, none, some (.inl v2), none]) rfl (hxl1 _ rfl)
        · refine e_steps 2 (s' := (53, [some (.inr (.inr (some (12, 0)))), some (.inr (.inr (some (135, i1)))), some (.inl v2), some (.inl v3)], [.inl v3, .inr (.inr (some (135, i1)))], m)) rfl ?_
          refine e_gd (s1 := (56, [some (.inr (.inr (some (12, 0)))), some (.inr (.inr (some (135, i1)))), some (.inl v2), some (.inl v3)], [.inl (Int32.ofNat ((mm_txt i1).getD v3.toNatClampNeg ' ').toNat)], m)) rfl hres (fun hc hres => ?_)
          refine e_steps 6 (s' := (66, [some (.inr (.inr (some (12, 0)))), some (.inr (.inr (some (135, i1)))), some (.inl v2), some (.inl v3)], [.inl ((m 12 0 27) + v3), .inr (.inr (some (80, 0))), .inl (Int32.ofNat ((mm_txt i1).getD v3.toNatClampNeg ' ').toNat)], m)) rfl ?_
          refine e_gd (s1 := (67, [some (.inr (.inr (some (12, 0)))), some (.inr (.inr (some (135, i1)))), some (.inl v2), some (.inl v3)], [.inl (m 80 0 ((m 12 0 27) + v3).toNatClampNeg), .inl (Int32.ofNat ((mm_txt i1).getD v3.toNatClampNeg ' ').toNat)], m)) rfl hres (fun hc hres => ?_)
          refine e_if (s1 := (74, [some (.inr (.inr (some (12, 0)))), some (.inr (.inr (some (135, i1)))), some (.inl v2), some (.inl v3)], [], m)) (s2 := (70, [some (.inr (.inr (some (12, 0)))), some (.inr (.inr (some (135, i1)))), some (.inl v2), some (.inl v3)], [], m)) rfl hres (fun hc hres => ?_) (fun hc hres => ?_)
          · refine e_steps 1 (s' := (75, [some (.inr (.inr (some (12, 0)))), some (.inr (.inr (some (135, i1)))), some (.inl v2), some (.inl v3)], [.inl 0], m)) rfl ?_
            refine e_mask (L' := [some (.inr (.inr (some (12, 0)))), some (.inr (.inr (some (135, i1)))), none, some (.inl v3)]) rfl ?_
            refine e_steps 2 (s' := (79, [some (.inr (.inr (some (12, 0)))), some (.inr (.inr (some (135, i1)))), some (.inl 0), some (.inl (v3 + 1))], [], m)) rfl ?_
            refine e_let (fun (v4 : Int32) => (79, [some (.inr (.inr (some (12, 0)))), some (.inr (.inr (some (135, i1)))), some (.inl 0), some (.inl v4)], [], m)) hres (fun v4 hres => ?_)
            refine e_steps 1 (s' := (39, [some (.inr (.inr (some (12, 0)))), some (.inr (.inr (some (135, i1)))), some (.inl 0), some (.inl v4)], [], m)) rfl ?_
            obtain rfl := Option.some.inj hres
            exact e_mask (L' := [some (.inr (.inr (some (12, 0)))), some (.inr (.inr (some (135, i1)))), some (.inl 0), some (.inl v4)]) rfl (hcl1 _ rfl)
          · refine e_steps 2 (s' := (75, [some (.inr (.inr (some (12, 0)))), some (.inr (.inr (some (135, i1)))), some (.inl v2), some (.inl v3)], [.inl 1], m)) rfl ?_
            refine e_mask (L' := [some (.inr (.inr (some (12, 0)))), some (.inr (.inr (some (135, i1)))), none, some (.inl v3)]) rfl ?_
            refine e_steps 2 (s' := (79, [some (.inr (.inr (some (12, 0)))), some (.inr (.inr (some (135, i1)))), some (.inl 1), some (.inl (v3 + 1))], [], m)) rfl ?_
            refine e_let (fun (v5 : Int32) => (79, [some (.inr (.inr (some (12, 0)))), some (.inr (.inr (some (135, i1)))), some (.inl 1), some (.inl v5)], [], m)) hres (fun v5 hres => ?_)
            refine e_steps 1 (s' := (39, [some (.inr (.inr (some (12, 0)))), some (.inr (.inr (some (135, i1)))), some (.inl 1), some (.inl v5)], [], m)) rfl ?_
            obtain rfl := Option.some.inj hres
            exact e_mask (L' := [some (.inr (.inr (some (12, 0)))), some (.inr (.inr (some (135, i1)))), some (.inl 1), some (.inl v5)]) rfl (hcl1 _ rfl)
  · refine e_steps 3 (s' := (12, [some (.inr (.inr (some (12, 0)))), some (.inr (.inr (some (135, i1)))), none, none], [.inl 1, .inl (m 12 0 24)], m)) rfl ?_
    refine e_if (s1 := (35, [some (.inr (.inr (some (12, 0)))), some (.inr (.inr (some (135, i1)))), none, none], [], m)) (s2 := (15, [some (.inr (.inr (some (12, 0)))), some (.inr (.inr (some (135, i1)))), none, none], [], m)) rfl hres (fun hc hres => ?_) (fun hc hres => ?_)
    · refine e_steps 4 (s' := (39, [some (.inr (.inr (some (12, 0)))), some (.inr (.inr (some (135, i1)))), some (.inl 0), some (.inl 0)], [], m)) rfl ?_
      refine e_mask (L' := [some (.inr (.inr (some (12, 0)))), some (.inr (.inr (some (135, i1)))), some (.inl 0), some (.inl 0)]) rfl ?_
      refine e_loopb (φ := fun s => (39, [some (.inr (.inr (some (12, 0)))), some (.inr (.inr (some (135, i1)))), some (.inl s.1), some (.inl s.2)], [], m)) (K := fun t => mm_E d 169 (82, [none, none, some (.inl t), none], [], m) (.inl (some (.inl r)), m, 0, 0)) hres (fun v12 hres => ?_) (fun s ol7 hres hcl7 hxl7 => ?_)
      · show mm_E d 169 (82, [none, none, some (.inl v12), none], [], m) (.inl (some (.inl r)), m, 0, 0)
        refine e_steps 1 (s' := (83, [none, none, some (.inl v12), none], [.inl v12], m)) rfl ?_
        refine e_gr (o := .inl (some (.inl v12))) rfl hres (fun hc hres => ?_)
        obtain rfl := Option.some.inj hres
        rfl
      · obtain ⟨v8, v9⟩ := s
        show mm_E d 169 (39, [some (.inr (.inr (some (12, 0)))), some (.inr (.inr (some (135, i1)))), some (.inl v8), some (.inl v9)], [], m) (.inl (some (.inl r)), m, 0, 0)
        refine e_steps 1 (s' := (40, [some (.inr (.inr (some (12, 0)))), some (.inr (.inr (some (135, i1)))), some (.inl v8), some (.inl v9)], [.inl v8], m)) rfl ?_
        refine e_if (s1 := (82, [some (.inr (.inr (some (12, 0)))), some (.inr (.inr (some (135, i1)))), some (.inl v8), some (.inl v9)], [], m)) (s2 := (43, [some (.inr (.inr (some (12, 0)))), some (.inr (.inr (some (135, i1)))), some (.inl v8), some (.inl v9)], [], m)) rfl hres (fun hc hres => ?_) (fun hc hres => ?_)
        · obtain rfl := Option.some.inj hres
          exact e_mask (L' := [none, none, some (.inl v8), none]) rfl (hxl7 _ rfl)
        · refine e_steps 3 (s' := (48, [some (.inr (.inr (some (12, 0)))), some (.inr (.inr (some (135, i1)))), some (.inl v8), some (.inl v9)], [.inl (Int32.ofNat (mm_txt i1).length), .inl v9], m)) rfl ?_
          refine e_if (s1 := (82, [some (.inr (.inr (some (12, 0)))), some (.inr (.inr (some (135, i1)))), some (.inl v8), some (.inl v9)], [], m)) (s2 := (51, [some (.inr (.inr (some (12, 0)))), some (.inr (.inr (some (135, i1)))), some (.inl v8), some (.inl v9)], [], m)) rfl hres (fun hc hres => ?_) (fun hc hres => ?_)
          · obtain rfl := Option.some.inj hres
            exact e_mask (L' := [none, none, some (.inl v8), none]) rfl (hxl7 _ rfl)
          · refine e_steps 2 (s' := (53, [some (.inr (.inr (some (12, 0)))), some (.inr (.inr (some (135, i1)))), some (.inl v8), some (.inl v9)], [.inl v9, .inr (.inr (some (135, i1)))], m)) rfl ?_
            refine e_gd (s1 := (56, [some (.inr (.inr (some (12, 0)))), some (.inr (.inr (some (135, i1)))), some (.inl v8), some (.inl v9)], [.inl (Int32.ofNat ((mm_txt i1).getD v9.toNatClampNeg ' ').toNat)], m)) rfl hres (fun hc hres => ?_)
            refine e_steps 6 (s' := (66, [some (.inr (.inr (some (12, 0)))), some (.inr (.inr (some (135, i1)))), some (.inl v8), some (.inl v9)], [.inl ((m 12 0 27) + v9), .inr (.inr (some (80, 0))), .inl (Int32.ofNat ((mm_txt i1).getD v9.toNatClampNeg ' ').toNat)], m)) rfl ?_
            refine e_gd (s1 := (67, [some (.inr (.inr (some (12, 0)))), some (.inr (.inr (some (135, i1)))), some (.inl v8), some (.inl v9)], [.inl (m 80 0 ((m 12 0 27) + v9).toNatClampNeg), .inl (Int32.ofNat ((mm_txt i1).getD v9.toNatClampNeg ' ').toNat)], m)) rfl hres (fun hc hres => ?_)
            refine e_if (s1 := (74, [some (.inr (.inr (some (12, 0)))), some (.inr (.inr (some (135, i1)))), some (.inl v8), some (.inl v9)], [], m)) (s2 := (70, [some (.inr (.inr (some (12, 0)))), some (.inr (.inr (some (135, i1)))), some (.inl v8), some (.inl v9)], [], m)) rfl hres (fun hc hres => ?_) (fun hc hres => ?_)
            · refine e_steps 1 (s' := (75, [some (.inr (.inr (some (12, 0)))), some (.inr (.inr (some (135, i1)))), some (.inl v8), some (.inl v9)], [.inl 0], m)) rfl ?_
              refine e_mask (L' := [some (.inr (.inr (some (12, 0)))), some (.inr (.inr (some (135, i1)))), none, some (.inl v9)]) rfl ?_
              refine e_steps 2 (s' := (79, [some (.inr (.inr (some (12, 0)))), some (.inr (.inr (some (135, i1)))), some (.inl 0), some (.inl (v9 + 1))], [], m)) rfl ?_
              refine e_let (fun (v10 : Int32) => (79, [some (.inr (.inr (some (12, 0)))), some (.inr (.inr (some (135, i1)))), some (.inl 0), some (.inl v10)], [], m)) hres (fun v10 hres => ?_)
              refine e_steps 1 (s' := (39, [some (.inr (.inr (some (12, 0)))), some (.inr (.inr (some (135, i1)))), some (.inl 0), some (.inl v10)], [], m)) rfl ?_
              obtain rfl := Option.some.inj hres
              exact e_mask (L' := [some (.inr (.inr (some (12, 0)))), some (.inr (.inr (some (135, i1)))), some (.inl 0), some (.inl v10)]) rfl (hcl7 _ rfl)
            · refine e_steps 2 (s' := (75, [some (.inr (.inr (some (12, 0)))), some (.inr (.inr (some (135, i1)))), some (.inl v8), some (.inl v9)], [.inl 1], m)) rfl ?_
              refine e_mask (L' := [some (.inr (.inr (some (12, 0)))), some (.inr (.inr (some (135, i1)))), none, some (.inl v9)]) rfl ?_
              refine e_steps 2 (s' := (79, [some (.inr (.inr (some (12, 0)))), some (.inr (.inr (some (135, i1)))), some (.inl 1), some (.inl (v9 + 1))], [], m)) rfl ?_
              refine e_let (fun (v11 : Int32) => (79, [some (.inr (.inr (some (12, 0)))), some (.inr (.inr (some (135, i1)))), some (.inl 1), some (.inl v11)], [], m)) hres (fun v11 hres => ?_)
              refine e_steps 1 (s' := (39, [some (.inr (.inr (some (12, 0)))), some (.inr (.inr (some (135, i1)))), some (.inl 1), some (.inl v11)], [], m)) rfl ?_
              obtain rfl := Option.some.inj hres
              exact e_mask (L' := [some (.inr (.inr (some (12, 0)))), some (.inr (.inr (some (135, i1)))), some (.inl 1), some (.inl v11)]) rfl (hcl7 _ rfl)
    · refine e_steps 7 (s' := (28, [some (.inr (.inr (some (12, 0)))), some (.inr (.inr (some (135, i1)))), none, none], [.inl ((m 12 0 28) - (m 12 0 27)), .inl (Int32.ofNat (mm_txt i1).length)], m)) rfl ?_
      refine e_if (s1 := (35, [some (.inr (.inr (some (12, 0)))), some (.inr (.inr (some (135, i1)))), none, none], [], m)) (s2 := (31, [some (.inr (.inr (some (12, 0)))), some (.inr (.inr (some (135, i1)))), none, none], [], m)) rfl hres (fun hc hres => ?_) (fun hc hres => ?_)
      · refine e_steps 4 (s' := (39, [some (.inr (.inr (some (12, 0)))), some (.inr (.inr (some (135, i1)))), some (.inl 0), some (.inl 0)], [], m)) rfl ?_
        refine e_mask (L' := [some (.inr (.inr (some (12, 0)))), some (.inr (.inr (some (135, i1)))), some (.inl 0), some (.inl 0)]) rfl ?_
        refine e_loopb (φ := fun s => (39, [some (.inr (.inr (some (12, 0)))), some (.inr (.inr (some (135, i1)))), some (.inl s.1), some (.inl s.2)], [], m)) (K := fun t => mm_E d 169 (82, [none, none, some (.inl t), none], [], m) (.inl (some (.inl r)), m, 0, 0)) hres (fun v18 hres => ?_) (fun s ol13 hres hcl13 hxl13 => ?_)
        · show mm_E d 169 (82, [none, none, some (.inl v18), none], [], m) (.inl (some (.inl r)), m, 0, 0)
          refine e_steps 1 (s' := (83, [none, none, some (.inl v18), none], [.inl v18], m)) rfl ?_
          refine e_gr (o := .inl (some (.inl v18))) rfl hres (fun hc hres => ?_)
          obtain rfl := Option.some.inj hres
          rfl
        · obtain ⟨v14, v15⟩ := s
          show mm_E d 169 (39, [some (.inr (.inr (some (12, 0)))), some (.inr (.inr (some (135, i1)))), some (.inl v14), some (.inl v15)], [], m) (.inl (some (.inl r)), m, 0, 0)
          refine e_steps 1 (s' := (40, [some (.inr (.inr (some (12, 0)))), some (.inr (.inr (some (135, i1)))), some (.inl v14), some (.inl v15)], [.inl v14], m)) rfl ?_
          refine e_if (s1 := (82, [some (.inr (.inr (some (12, 0)))), some (.inr (.inr (some (135, i1)))), some (.inl v14), some (.inl v15)], [], m)) (s2 := (43, [some (.inr (.inr (some (12, 0)))), some (.inr (.inr (some (135, i1)))), some (.inl v14), some (.inl v15)], [], m)) rfl hres (fun hc hres => ?_) (fun hc hres => ?_)
          · obtain rfl := Option.some.inj hres
            exact e_mask (L' := [none, none, some (.inl v14), none]) rfl (hxl13 _ rfl)
          · refine e_steps 3 (s' := (48, [some (.inr (.inr (some (12, 0)))), some (.inr (.inr (some (135, i1)))), some (.inl v14), some (.inl v15)], [.inl (Int32.ofNat (mm_txt i1).length), .inl v15], m)) rfl ?_
            refine e_if (s1 := (82, [some (.inr (.inr (some (12, 0)))), some (.inr (.inr (some (135, i1)))), some (.inl v14), some (.inl v15)], [], m)) (s2 := (51, [some (.inr (.inr (some (12, 0)))), some (.inr (.inr (some (135, i1)))), some (.inl v14), some (.inl v15)], [], m)) rfl hres (fun hc hres => ?_) (fun hc hres => ?_)
            · obtain rfl := Option.some.inj hres
              exact e_mask (L' := [none, none, some (.inl v14), none]) rfl (hxl13 _ rfl)
            · refine e_steps 2 (s' := (53, [some (.inr (.inr (some (12, 0)))), some (.inr (.inr (some (135, i1)))), some (.inl v14), some (.inl v15)], [.inl v15, .inr (.inr (some (135, i1)))], m)) rfl ?_
              refine e_gd (s1 := (56, [some (.inr (.inr (some (12, 0)))), some (.inr (.inr (some (135, i1)))), some (.inl v14), some (.inl v15)], [.inl (Int32.ofNat ((mm_txt i1).getD v15.toNatClampNeg ' ').toNat)], m)) rfl hres (fun hc hres => ?_)
              refine e_steps 6 (s' := (66, [some (.inr (.inr (some (12, 0)))), some (.inr (.inr (some (135, i1)))), some (.inl v14), some (.inl v15)], [.inl ((m 12 0 27) + v15), .inr (.inr (some (80, 0))), .inl (Int32.ofNat ((mm_txt i1).getD v15.toNatClampNeg ' ').toNat)], m)) rfl ?_
              refine e_gd (s1 := (67, [some (.inr (.inr (some (12, 0)))), some (.inr (.inr (some (135, i1)))), some (.inl v14), some (.inl v15)], [.inl (m 80 0 ((m 12 0 27) + v15).toNatClampNeg), .inl (Int32.ofNat ((mm_txt i1).getD v15.toNatClampNeg ' ').toNat)], m)) rfl hres (fun hc hres => ?_)
              refine e_if (s1 := (74, [some (.inr (.inr (some (12, 0)))), some (.inr (.inr (some (135, i1)))), some (.inl v14), some (.inl v15)], [], m)) (s2 := (70, [some (.inr (.inr (some (12, 0)))), some (.inr (.inr (some (135, i1)))), some (.inl v14), some (.inl v15)], [], m)) rfl hres (fun hc hres => ?_) (fun hc hres => ?_)
              · refine e_steps 1 (s' := (75, [some (.inr (.inr (some (12, 0)))), some (.inr (.inr (some (135, i1)))), some (.inl v14), some (.inl v15)], [.inl 0], m)) rfl ?_
                refine e_mask (L' := [some (.inr (.inr (some (12, 0)))), some (.inr (.inr (some (135, i1)))), none, some (.inl v15)]) rfl ?_
                refine e_steps 2 (s' := (79, [some (.inr (.inr (some (12, 0)))), some (.inr (.inr (some (135, i1)))), some (.inl 0), some (.inl (v15 + 1))], [], m)) rfl ?_
                refine e_let (fun (v16 : Int32) => (79, [some (.inr (.inr (some (12, 0)))), some (.inr (.inr (some (135, i1)))), some (.inl 0), some (.inl v16)], [], m)) hres (fun v16 hres => ?_)
                refine e_steps 1 (s' := (39, [some (.inr (.inr (some (12, 0)))), some (.inr (.inr (some (135, i1)))), some (.inl 0), some (.inl v16)], [], m)) rfl ?_
                obtain rfl := Option.some.inj hres
                exact e_mask (L' := [some (.inr (.inr (some (12, 0)))), some (.inr (.inr (some (135, i1)))), some (.inl 0), some (.inl v16)]) rfl (hcl13 _ rfl)
              · refine e_steps 2 (s' := (75, [some (.inr (.inr (some (12, 0)))), some (.inr (.inr (some (135, i1)))), some (.inl v14), some (.inl v15)], [.inl 1], m)) rfl ?_
                refine e_mask (L' := [some (.inr (.inr (some (12, 0)))), some (.inr (.inr (some (135, i1)))), none, some (.inl v15)]) rfl ?_
                refine e_steps 2 (s' := (79, [some (.inr (.inr (some (12, 0)))), some (.inr (.inr (some (135, i1)))), some (.inl 1), some (.inl (v15 + 1))], [], m)) rfl ?_
                refine e_let (fun (v17 : Int32) => (79, [some (.inr (.inr (some (12, 0)))), some (.inr (.inr (some (135, i1)))), some (.inl 1), some (.inl v17)], [], m)) hres (fun v17 hres => ?_)
                refine e_steps 1 (s' := (39, [some (.inr (.inr (some (12, 0)))), some (.inr (.inr (some (135, i1)))), some (.inl 1), some (.inl v17)], [], m)) rfl ?_
                obtain rfl := Option.some.inj hres
                exact e_mask (L' := [some (.inr (.inr (some (12, 0)))), some (.inr (.inr (some (135, i1)))), some (.inl 1), some (.inl v17)]) rfl (hcl13 _ rfl)
      · refine e_steps 5 (s' := (39, [some (.inr (.inr (some (12, 0)))), some (.inr (.inr (some (135, i1)))), some (.inl 1), some (.inl 0)], [], m)) rfl ?_
        refine e_mask (L' := [some (.inr (.inr (some (12, 0)))), some (.inr (.inr (some (135, i1)))), some (.inl 1), some (.inl 0)]) rfl ?_
        refine e_loopb (φ := fun s => (39, [some (.inr (.inr (some (12, 0)))), some (.inr (.inr (some (135, i1)))), some (.inl s.1), some (.inl s.2)], [], m)) (K := fun t => mm_E d 169 (82, [none, none, some (.inl t), none], [], m) (.inl (some (.inl r)), m, 0, 0)) hres (fun v24 hres => ?_) (fun s ol19 hres hcl19 hxl19 => ?_)
        · show mm_E d 169 (82, [none, none, some (.inl v24), none], [], m) (.inl (some (.inl r)), m, 0, 0)
          refine e_steps 1 (s' := (83, [none, none, some (.inl v24), none], [.inl v24], m)) rfl ?_
          refine e_gr (o := .inl (some (.inl v24))) rfl hres (fun hc hres => ?_)
          obtain rfl := Option.some.inj hres
          rfl
        · obtain ⟨v20, v21⟩ := s
          show mm_E d 169 (39, [some (.inr (.inr (some (12, 0)))), some (.inr (.inr (some (135, i1)))), some (.inl v20), some (.inl v21)], [], m) (.inl (some (.inl r)), m, 0, 0)
          refine e_steps 1 (s' := (40, [some (.inr (.inr (some (12, 0)))), some (.inr (.inr (some (135, i1)))), some (.inl v20), some (.inl v21)], [.inl v20], m)) rfl ?_
          refine e_if (s1 := (82, [some (.inr (.inr (some (12, 0)))), some (.inr (.inr (some (135, i1)))), some (.inl v20), some (.inl v21)], [], m)) (s2 := (43, [some (.inr (.inr (some (12, 0)))), some (.inr (.inr (some (135, i1)))), some (.inl v20), some (.inl v21)], [], m)) rfl hres (fun hc hres => ?_) (fun hc hres => ?_)
          · obtain rfl := Option.some.inj hres
            exact e_mask (L' := [none, none, some (.inl v20), none]) rfl (hxl19 _ rfl)
          · refine e_steps 3 (s' := (48, [some (.inr (.inr (some (12, 0)))), some (.inr (.inr (some (135, i1)))), some (.inl v20), some (.inl v21)], [.inl (Int32.ofNat (mm_txt i1).length), .inl v21], m)) rfl ?_
            refine e_if (s1 := (82, [some (.inr (.inr (some (12, 0)))), some (.inr (.inr (some (135, i1)))), some (.inl v20), some (.inl v21)], [], m)) (s2 := (51, [some (.inr (.inr (some (12, 0)))), some (.inr (.inr (some (135, i1)))), some (.inl v20), some (.inl v21)], [], m)) rfl hres (fun hc hres => ?_) (fun hc hres => ?_)
            · obtain rfl := Option.some.inj hres
              exact e_mask (L' := [none, none, some (.inl v20), none]) rfl (hxl19 _ rfl)
            · refine e_steps 2 (s' := (53, [some (.inr (.inr (some (12, 0)))), some (.inr (.inr (some (135, i1)))), some (.inl v20), some (.inl v21)], [.inl v21, .inr (.inr (some (135, i1)))], m)) rfl ?_
              refine e_gd (s1 := (56, [some (.inr (.inr (some (12, 0)))), some (.inr (.inr (some (135, i1)))), some (.inl v20), some (.inl v21)], [.inl (Int32.ofNat ((mm_txt i1).getD v21.toNatClampNeg ' ').toNat)], m)) rfl hres (fun hc hres => ?_)
              refine e_steps 6 (s' := (66, [some (.inr (.inr (some (12, 0)))), some (.inr (.inr (some (135, i1)))), some (.inl v20), some (.inl v21)], [.inl ((m 12 0 27) + v21), .inr (.inr (some (80, 0))), .inl (Int32.ofNat ((mm_txt i1).getD v21.toNatClampNeg ' ').toNat)], m)) rfl ?_
              refine e_gd (s1 := (67, [some (.inr (.inr (some (12, 0)))), some (.inr (.inr (some (135, i1)))), some (.inl v20), some (.inl v21)], [.inl (m 80 0 ((m 12 0 27) + v21).toNatClampNeg), .inl (Int32.ofNat ((mm_txt i1).getD v21.toNatClampNeg ' ').toNat)], m)) rfl hres (fun hc hres => ?_)
              refine e_if (s1 := (74, [some (.inr (.inr (some (12, 0)))), some (.inr (.inr (some (135, i1)))), some (.inl v20), some (.inl v21)], [], m)) (s2 := (70, [some (.inr (.inr (some (12, 0)))), some (.inr (.inr (some (135, i1)))), some (.inl v20), some (.inl v21)], [], m)) rfl hres (fun hc hres => ?_) (fun hc hres => ?_)
              · refine e_steps 1 (s' := (75, [some (.inr (.inr (some (12, 0)))), some (.inr (.inr (some (135, i1)))), some (.inl v20), some (.inl v21)], [.inl 0], m)) rfl ?_
                refine e_mask (L' := [some (.inr (.inr (some (12, 0)))), some (.inr (.inr (some (135, i1)))), none, some (.inl v21)]) rfl ?_
                refine e_steps 2 (s' := (79, [some (.inr (.inr (some (12, 0)))), some (.inr (.inr (some (135, i1)))), some (.inl 0), some (.inl (v21 + 1))], [], m)) rfl ?_
                refine e_let (fun (v22 : Int32) => (79, [some (.inr (.inr (some (12, 0)))), some (.inr (.inr (some (135, i1)))), some (.inl 0), some (.inl v22)], [], m)) hres (fun v22 hres => ?_)
                refine e_steps 1 (s' := (39, [some (.inr (.inr (some (12, 0)))), some (.inr (.inr (some (135, i1)))), some (.inl 0), some (.inl v22)], [], m)) rfl ?_
                obtain rfl := Option.some.inj hres
                exact e_mask (L' := [some (.inr (.inr (some (12, 0)))), some (.inr (.inr (some (135, i1)))), some (.inl 0), some (.inl v22)]) rfl (hcl19 _ rfl)
              · refine e_steps 2 (s' := (75, [some (.inr (.inr (some (12, 0)))), some (.inr (.inr (some (135, i1)))), some (.inl v20), some (.inl v21)], [.inl 1], m)) rfl ?_
                refine e_mask (L' := [some (.inr (.inr (some (12, 0)))), some (.inr (.inr (some (135, i1)))), none, some (.inl v21)]) rfl ?_
                refine e_steps 2 (s' := (79, [some (.inr (.inr (some (12, 0)))), some (.inr (.inr (some (135, i1)))), some (.inl 1), some (.inl (v21 + 1))], [], m)) rfl ?_
                refine e_let (fun (v23 : Int32) => (79, [some (.inr (.inr (some (12, 0)))), some (.inr (.inr (some (135, i1)))), some (.inl 1), some (.inl v23)], [], m)) hres (fun v23 hres => ?_)
                refine e_steps 1 (s' := (39, [some (.inr (.inr (some (12, 0)))), some (.inr (.inr (some (135, i1)))), some (.inl 1), some (.inl v23)], [], m)) rfl ?_
                obtain rfl := Option.some.inj hres
                exact e_mask (L' := [some (.inr (.inr (some (12, 0)))), some (.inr (.inr (some (135, i1)))), some (.inl 1), some (.inl v23)]) rfl (hcl19 _ rfl)
/-- GlassThreadsModel.need(I)V -/
def f_X12_need (a1 : Int32) (m : mm_M) : Option (mm_M) :=
mm_let (fun (m1 : mm_M) => (if (m1 12 0 29) ≠ 0 then (some m1)
else (mm_b1 (f_X12_step m1) fun m4 =>
some m4) : Option (mm_M))) fun k2 =>
if (m 12 0 29) ≠ 0 then (k2 m)
else (mm_b1 (f_X12_isSign a1 m) fun r5 =>
if r5 ≠ 0 then (k2 m)
else (mm_b1 (f_X12_wrong 1 m) fun m7 =>
k2 m7))
set_option maxHeartbeats 4000000 in
set_option maxRecDepth 100000 in
theorem k_X12_need (d : Nat) (hd : 2 ≤ d) (a1 : Int32) (m : mm_M) (r : mm_M) (hres : f_X12_need a1 m = some r) : mm_X d 171 [.inr (.inr (some (12, 0))), .inl a1] m (.inl none, r, 0, 0) := by
  unfold f_X12_need at hres
  obtain ⟨d, rfl⟩ : ∃ e, d = e + 1 := ⟨d - 1, by omega⟩
  show mm_E (d + 1) 171 (0, [some (.inr (.inr (some (12, 0)))), some (.inl a1)], [], m) (.inl none, r, 0, 0)
  refine e_steps 2 (s' := (4, [some (.inr (.inr (some (12, 0)))), some (.inl a1)], [.inl (m 12 0 29)], m)) rfl ?_
  refine e_join (fun k2 => ∀ (m1 : mm_M), k2 m1 = some r → mm_E (d + 1) 171 (20, [some (.inr (.inr (some (12, 0)))), none], [], m1) (.inl none, r, 0, 0)) hres (fun m1 hres => ?_) (fun k2 hk2 hres => ?_)
  · refine e_steps 2 (s' := (24, [some (.inr (.inr (some (12, 0)))), none], [.inl (m1 12 0 29)], m1)) rfl ?_
    refine e_if (s1 := (31, [some (.inr (.inr (some (12, 0)))), none], [], m1)) (s2 := (27, [some (.inr (.inr (some (12, 0)))), none], [], m1)) rfl hres (fun hc hres => ?_) (fun hc hres => ?_)
    · refine e_mask (L' := [none, none]) rfl ?_
      obtain rfl := Option.some.inj hres
      exact e_ret rfl rfl
    · refine e_steps 1 (s' := (28, [some (.inr (.inr (some (12, 0)))), none], [.inr (.inr (some (12, 0)))], m1)) rfl ?_
      obtain ⟨m4, hv, hres⟩ := mm_b1_some hres
      refine e_call0 (pc := 31) (L := [some (.inr (.inr (some (12, 0)))), none]) (st := []) (m' := m4) (v := none) rfl (k_X12_step d (by omega)  _ _ hv) ?_
      show mm_E (d + 1) 171 (31, [some (.inr (.inr (some (12, 0)))), none], [], m4) (.inl none, r, 0, 0)
      refine e_mask (L' := [none, none]) rfl ?_
      obtain rfl := Option.some.inj hres
      exact e_ret rfl rfl
  · refine e_if (s1 := (20, [some (.inr (.inr (some (12, 0)))), some (.inl a1)], [], m)) (s2 := (7, [some (.inr (.inr (some (12, 0)))), some (.inl a1)], [], m)) rfl hres (fun hc hres => ?_) (fun hc hres => ?_)
    · exact e_mask (L' := [some (.inr (.inr (some (12, 0)))), none]) rfl (hk2 _ hres)
    · refine e_steps 2 (s' := (9, [some (.inr (.inr (some (12, 0)))), some (.inl a1)], [.inl a1, .inr (.inr (some (12, 0)))], m)) rfl ?_
      obtain ⟨r5, hv, hres⟩ := mm_b1_some hres
      refine e_call0 (pc := 12) (L := [some (.inr (.inr (some (12, 0)))), some (.inl a1)]) (st := []) (m' := m) (v := some (.inl r5)) rfl (k_X12_isSign d (by omega) a1 _ _ hv) ?_
      show mm_E (d + 1) 171 (12, [some (.inr (.inr (some (12, 0)))), some (.inl a1)], [.inl r5], m) (.inl none, r, 0, 0)
      refine e_if (s1 := (20, [some (.inr (.inr (some (12, 0)))), some (.inl a1)], [], m)) (s2 := (15, [some (.inr (.inr (some (12, 0)))), some (.inl a1)], [], m)) rfl hres (fun hc hres => ?_) (fun hc hres => ?_)
      · exact e_mask (L' := [some (.inr (.inr (some (12, 0)))), none]) rfl (hk2 _ hres)
      · refine e_steps 2 (s' := (17, [some (.inr (.inr (some (12, 0)))), some (.inl a1)], [.inl 1, .inr (.inr (some (12, 0)))], m)) rfl ?_
        obtain ⟨m7, hv, hres⟩ := mm_b1_some hres
        refine e_call0 (pc := 20) (L := [some (.inr (.inr (some (12, 0)))), some (.inl a1)]) (st := []) (m' := m7) (v := none) rfl (k_X12_wrong d (by omega) 1 _ _ hv) ?_
        show mm_E (d + 1) 171 (20, [some (.inr (.inr (some (12, 0)))), some (.inl a1)], [], m7) (.inl none, r, 0, 0)
        exact e_mask (L' := [some (.inr (.inr (some (12, 0)))), none]) rfl (hk2 _ hres)
/-- GlassThreadsModel.readNumber(II)I -/
def f_X12_readNumber (a1 : Int32) (a2 : Int32) (m : mm_M) : Option (Int32 × mm_M) :=
if (m 12 0 29) = 0 then (mm_let (fun (m1 : mm_M) => (mm_let (m1 12 0 26) fun v3 =>
if (m1 12 0 29) ≠ 0 then (some (v3, m1))
else (mm_b1 (f_X12_step m1) fun m5 =>
some (v3, m5)) : Option (Int32 × mm_M))) fun k2 =>
if (m 12 0 24) = 2 then (if 5 < ((m 12 0 28) - (m 12 0 27)) then (mm_b1 (f_X12_wrong 2 m) fun m7 =>
k2 m7)
else (if (m 12 0 26) < a1 then (mm_b1 (f_X12_wrong 2 m) fun m9 =>
k2 m9)
else (if (m 12 0 26) ≤ a2 then (k2 m)
else (mm_b1 (f_X12_wrong 2 m) fun m11 =>
k2 m11))))
else (mm_b1 (f_X12_wrong 1 m) fun m13 =>
k2 m13))
else (some (0, m))
set_option maxHeartbeats 4000000 in
set_option maxRecDepth 100000 in
theorem k_X12_readNumber (d : Nat) (hd : 2 ≤ d) (a1 : Int32) (a2 : Int32) (m : mm_M) (r : Int32 × mm_M) (hres : f_X12_readNumber a1 a2 m = some r) : mm_X d 172 [.inr (.inr (some (12, 0))), .inl a1, .inl a2] m (.inl (some (.inl r.1)), r.2, 0, 0) := by
  unfold f_X12_readNumber at hres
  obtain ⟨d, rfl⟩ : ∃ e, d = e + 1 := ⟨d - 1, by omega⟩
  show mm_E (d + 1) 172 (0, [some (.inr (.inr (some (12, 0)))), some (.inl a1), some (.inl a2), none], [], m) (.inl (some (.inl r.1)), r.2, 0, 0)
  refine e_steps 2 (s' := (4, [some (.inr (.inr (some (12, 0)))), some (.inl a1), some (.inl a2), none], [.inl (m 12 0 29)], m)) rfl ?_
  refine e_if (s1 := (9, [some (.inr (.inr (some (12, 0)))), some (.inl a1), some (.inl a2), none], [], m)) (s2 := (7, [some (.inr (.inr (some (12, 0)))), some (.inl a1), some (.inl a2), none], [], m)) rfl hres (fun hc hres => ?_) (fun hc hres => ?_)
  · refine e_steps 3 (s' := (14, [some (.inr (.inr (some (12, 0)))), some (.inl a1), some (.inl a2), none], [.inl 2, .inl (m 12 0 24)], m)) rfl ?_
    refine e_join (fun k2 => ∀ (m1 : mm_M), k2 m1 = some r → mm_E (d + 1) 172 (59, [some (.inr (.inr (some (12, 0)))), none, none, none], [], m1) (.inl (some (.inl r.1)), r.2, 0, 0)) hres (fun m1 hres => ?_) (fun k2 hk2 hres => ?_)
    · refine e_steps 3 (s' := (64, [some (.inr (.inr (some (12, 0)))), none, none, some (.inl (m1 12 0 26))], [], m1)) rfl ?_
      refine e_let (fun (v3 : Int32) => (64, [some (.inr (.inr (some (12, 0)))), none, none, some (.inl v3)], [], m1)) hres (fun v3 hres => ?_)
      refine e_steps 2 (s' := (68, [some (.inr (.inr (some (12, 0)))), none, none, some (.inl v3)], [.inl (m1 12 0 29)], m1)) rfl ?_
      refine e_if (s1 := (75, [some (.inr (.inr (some (12, 0)))), none, none, some (.inl v3)], [], m1)) (s2 := (71, [some (.inr (.inr (some (12, 0)))), none, none, some (.inl v3)], [], m1)) rfl hres (fun hc hres => ?_) (fun hc hres => ?_)
      · refine e_mask (L' := [none, none, none, some (.inl v3)]) rfl ?_
        refine e_steps 1 (s' := (76, [none, none, none, some (.inl v3)], [.inl v3], m1)) rfl ?_
        obtain rfl := Option.some.inj hres
        exact e_ret rfl rfl
      · refine e_steps 1 (s' := (72, [some (.inr (.inr (some (12, 0)))), none, none, some (.inl v3)], [.inr (.inr (some (12, 0)))], m1)) rfl ?_
        obtain ⟨m5, hv, hres⟩ := mm_b1_some hres
        refine e_call0 (pc := 75) (L := [some (.inr (.inr (some (12, 0)))), none, none, some (.inl v3)]) (st := []) (m' := m5) (v := none) rfl (k_X12_step d (by omega)  _ _ hv) ?_
        show mm_E (d + 1) 172 (75, [some (.inr (.inr (some (12, 0)))), none, none, some (.inl v3)], [], m5) (.inl (some (.inl r.1)), r.2, 0, 0)
        refine e_mask (L' := [none, none, none, some (.inl v3)]) rfl ?_
        refine e_steps 1 (s' := (76, [none, none, none, some (.inl v3)], [.inl v3], m5)) rfl ?_
        obtain rfl := Option.some.inj hres
        exact e_ret rfl rfl
    · refine e_if (s1 := (25, [some (.inr (.inr (some (12, 0)))), some (.inl a1), some (.inl a2), none], [], m)) (s2 := (17, [some (.inr (.inr (some (12, 0)))), some (.inl a1), some (.inl a2), none], [], m)) rfl hres (fun hc hres => ?_) (fun hc hres => ?_)
      · refine e_steps 6 (s' := (35, [some (.inr (.inr (some (12, 0)))), some (.inl a1), some (.inl a2), none], [.inl 5, .inl ((m 12 0 28) - (m 12 0 27))], m)) rfl ?_
        refine e_if (s1 := (54, [some (.inr (.inr (some (12, 0)))), some (.inl a1), some (.inl a2), none], [], m)) (s2 := (38, [some (.inr (.inr (some (12, 0)))), some (.inl a1), some (.inl a2), none], [], m)) rfl hres (fun hc hres => ?_) (fun hc hres => ?_)
        · refine e_mask (L' := [some (.inr (.inr (some (12, 0)))), none, none, none]) rfl ?_
          refine e_steps 2 (s' := (56, [some (.inr (.inr (some (12, 0)))), none, none, none], [.inl 2, .inr (.inr (some (12, 0)))], m)) rfl ?_
          obtain ⟨m7, hv, hres⟩ := mm_b1_some hres
          refine e_call0 (pc := 59) (L := [some (.inr (.inr (some (12, 0)))), none, none, none]) (st := []) (m' := m7) (v := none) rfl (k_X12_wrong d (by omega) 2 _ _ hv) ?_
          show mm_E (d + 1) 172 (59, [some (.inr (.inr (some (12, 0)))), none, none, none], [], m7) (.inl (some (.inl r.1)), r.2, 0, 0)
          exact e_mask (L' := [some (.inr (.inr (some (12, 0)))), none, none, none]) rfl (hk2 _ hres)
        · refine e_steps 3 (s' := (43, [some (.inr (.inr (some (12, 0)))), some (.inl a1), some (.inl a2), none], [.inl a1, .inl (m 12 0 26)], m)) rfl ?_
          refine e_if (s1 := (54, [some (.inr (.inr (some (12, 0)))), some (.inl a1), some (.inl a2), none], [], m)) (s2 := (46, [some (.inr (.inr (some (12, 0)))), some (.inl a1), some (.inl a2), none], [], m)) rfl hres (fun hc hres => ?_) (fun hc hres => ?_)
          · refine e_mask (L' := [some (.inr (.inr (some (12, 0)))), none, none, none]) rfl ?_
            refine e_steps 2 (s' := (56, [some (.inr (.inr (some (12, 0)))), none, none, none], [.inl 2, .inr (.inr (some (12, 0)))], m)) rfl ?_
            obtain ⟨m9, hv, hres⟩ := mm_b1_some hres
            refine e_call0 (pc := 59) (L := [some (.inr (.inr (some (12, 0)))), none, none, none]) (st := []) (m' := m9) (v := none) rfl (k_X12_wrong d (by omega) 2 _ _ hv) ?_
            show mm_E (d + 1) 172 (59, [some (.inr (.inr (some (12, 0)))), none, none, none], [], m9) (.inl (some (.inl r.1)), r.2, 0, 0)
            exact e_mask (L' := [some (.inr (.inr (some (12, 0)))), none, none, none]) rfl (hk2 _ hres)
          · refine e_steps 3 (s' := (51, [some (.inr (.inr (some (12, 0)))), some (.inl a1), some (.inl a2), none], [.inl a2, .inl (m 12 0 26)], m)) rfl ?_
            refine e_if (s1 := (59, [some (.inr (.inr (some (12, 0)))), some (.inl a1), some (.inl a2), none], [], m)) (s2 := (54, [some (.inr (.inr (some (12, 0)))), some (.inl a1), some (.inl a2), none], [], m)) rfl hres (fun hc hres => ?_) (fun hc hres => ?_)
            · exact e_mask (L' := [some (.inr (.inr (some (12, 0)))), none, none, none]) rfl (hk2 _ hres)
            · refine e_mask (L' := [some (.inr (.inr (some (12, 0)))), none, none, none]) rfl ?_
              refine e_steps 2 (s' := (56, [some (.inr (.inr (some (12, 0)))), none, none, none], [.inl 2, .inr (.inr (some (12, 0)))], m)) rfl ?_
              obtain ⟨m11, hv, hres⟩ := mm_b1_some hres
              refine e_call0 (pc := 59) (L := [some (.inr (.inr (some (12, 0)))), none, none, none]) (st := []) (m' := m11) (v := none) rfl (k_X12_wrong d (by omega) 2 _ _ hv) ?_
              show mm_E (d + 1) 172 (59, [some (.inr (.inr (some (12, 0)))), none, none, none], [], m11) (.inl (some (.inl r.1)), r.2, 0, 0)
              exact e_mask (L' := [some (.inr (.inr (some (12, 0)))), none, none, none]) rfl (hk2 _ hres)
      · refine e_steps 2 (s' := (19, [some (.inr (.inr (some (12, 0)))), some (.inl a1), some (.inl a2), none], [.inl 1, .inr (.inr (some (12, 0)))], m)) rfl ?_
        obtain ⟨m13, hv, hres⟩ := mm_b1_some hres
        refine e_call0 (pc := 22) (L := [some (.inr (.inr (some (12, 0)))), some (.inl a1), some (.inl a2), none]) (st := []) (m' := m13) (v := none) rfl (k_X12_wrong d (by omega) 1 _ _ hv) ?_
        show mm_E (d + 1) 172 (22, [some (.inr (.inr (some (12, 0)))), some (.inl a1), some (.inl a2), none], [], m13) (.inl (some (.inl r.1)), r.2, 0, 0)
        refine e_steps 1 (s' := (59, [some (.inr (.inr (some (12, 0)))), some (.inl a1), some (.inl a2), none], [], m13)) rfl ?_
        exact e_mask (L' := [some (.inr (.inr (some (12, 0)))), none, none, none]) rfl (hk2 _ hres)
  · refine e_steps 1 (s' := (8, [some (.inr (.inr (some (12, 0)))), some (.inl a1), some (.inl a2), none], [.inl 0], m)) rfl ?_
    obtain rfl := Option.some.inj hres
    exact e_ret rfl rfl
/-- GlassThreadsModel.which([Ljava/lang/String;)I -/
def f_X12_which_g65  (m : mm_M) : Option (Int32) :=
(mm_b1 (mm_loop (σ := Int32) (ρ := (Int32) ⊕ (Unit)) (fun (v2 : Int32) => (if (Int32.ofNat 4) ≤ v2 then (some (.inr (.inr ())))
else (if mm_in v2 4 then (
mm_let (5 + v2.toNatClampNeg) fun i3 =>
mm_b1 (f_X12_is i3 m) fun r4 =>
if r4 = 0 then (mm_let (v2 + 1) fun v5 =>
some (.inl v5))
else (some (.inr (.inl v2)))) else none) : Option ((Int32) ⊕ ((Int32) ⊕ (Unit))))) mm_fu 0) fun t => match t with
| .inl v6 => some v6
| .inr _ => some (-1))
set_option maxHeartbeats 4000000 in
set_option maxRecDepth 100000 in
theorem k_X12_which_g65 (d : Nat) (hd : 1 ≤ d)  (m : mm_M) (r : Int32) (hres : f_X12_which_g65  m = some r) : mm_X d 170 [.inr (.inr (some (12, 0))), .inr (.inr (some (65, 0)))] m (.inl (some (.inl r)), m, 0, 0) := by
  unfold f_X12_which_g65 at hres
  obtain ⟨d, rfl⟩ : ∃ e, d = e + 1 := ⟨d - 1, by omega⟩
  show mm_E (d + 1) 170 (0, [some (.inr (.inr (some (12, 0)))), some (.inr (.inr (some (65, 0)))), none], [], m) (.inl (some (.inl r)), m, 0, 0)
  refine e_steps 2 (s' := (2, [some (.inr (.inr (some (12, 0)))), some (.inr (.inr (some (65, 0)))), some (.inl 0)], [], m)) rfl ?_
  refine e_mask (L' := [some (.inr (.inr (some (12, 0)))), some (.inr (.inr (some (65, 0)))), some (.inl 0)]) rfl ?_
  refine e_loopb (φ := fun s => (2, [some (.inr (.inr (some (12, 0)))), some (.inr (.inr (some (65, 0)))), some (.inl s)], [], m)) (K := fun t => match t with | .inl t => mm_E (d + 1) 170 (18, [none, none, some (.inl t)], [], m) (.inl (some (.inl r)), m, 0, 0) | .inr t => mm_E (d + 1) 170 (26, [none, none, none], [], m) (.inl (some (.inl r)), m, 0, 0)) hres (fun t hres => ?_) (fun v2 ol1 hres hcl1 hxl1 => ?_)
  · rcases t with v6 | _
    · show mm_E (d + 1) 170 (18, [none, none, some (.inl v6)], [], m) (.inl (some (.inl r)), m, 0, 0)
      refine e_steps 1 (s' := (19, [none, none, some (.inl v6)], [.inl v6], m)) rfl ?_
      obtain rfl := Option.some.inj hres
      exact e_ret rfl rfl
    · show mm_E (d + 1) 170 (26, [none, none, none], [], m) (.inl (some (.inl r)), m, 0, 0)
      refine e_steps 1 (s' := (27, [none, none, none], [.inl (-1)], m)) rfl ?_
      obtain rfl := Option.some.inj hres
      exact e_ret rfl rfl
  · show mm_E (d + 1) 170 (2, [some (.inr (.inr (some (12, 0)))), some (.inr (.inr (some (65, 0)))), some (.inl v2)], [], m) (.inl (some (.inl r)), m, 0, 0)
    refine e_steps 3 (s' := (5, [some (.inr (.inr (some (12, 0)))), some (.inr (.inr (some (65, 0)))), some (.inl v2)], [.inl (Int32.ofNat 4), .inl v2], m)) rfl ?_
    refine e_if (s1 := (26, [some (.inr (.inr (some (12, 0)))), some (.inr (.inr (some (65, 0)))), some (.inl v2)], [], m)) (s2 := (8, [some (.inr (.inr (some (12, 0)))), some (.inr (.inr (some (65, 0)))), some (.inl v2)], [], m)) rfl hres (fun hc hres => ?_) (fun hc hres => ?_)
    · obtain rfl := Option.some.inj hres
      exact e_mask (L' := [none, none, none]) rfl (hxl1 _ rfl)
    · refine e_steps 3 (s' := (11, [some (.inr (.inr (some (12, 0)))), some (.inr (.inr (some (65, 0)))), some (.inl v2)], [.inl v2, .inr (.inr (some (65, 0))), .inr (.inr (some (12, 0)))], m)) rfl ?_
      refine e_gd (s1 := (12, [some (.inr (.inr (some (12, 0)))), some (.inr (.inr (some (65, 0)))), some (.inl v2)], [.inr (.inr (some (135, (5 + v2.toNatClampNeg)))), .inr (.inr (some (12, 0)))], m)) rfl hres (fun hc hres => ?_)
      refine e_let (fun (i3 : Nat) => (12, [some (.inr (.inr (some (12, 0)))), some (.inr (.inr (some (65, 0)))), some (.inl v2)], [.inr (.inr (some (135, i3))), .inr (.inr (some (12, 0)))], m)) hres (fun i3 hres => ?_)
      obtain ⟨r4, hv, hres⟩ := mm_b1_some hres
      refine e_call0 (pc := 15) (L := [some (.inr (.inr (some (12, 0)))), some (.inr (.inr (some (65, 0)))), some (.inl v2)]) (st := []) (m' := m) (v := some (.inl r4)) rfl (k_X12_is d (by omega) i3 _ _ hv) ?_
      show mm_E (d + 1) 170 (15, [some (.inr (.inr (some (12, 0)))), some (.inr (.inr (some (65, 0)))), some (.inl v2)], [.inl r4], m) (.inl (some (.inl r)), m, 0, 0)
      refine e_if (s1 := (20, [some (.inr (.inr (some (12, 0)))), some (.inr (.inr (some (65, 0)))), some (.inl v2)], [], m)) (s2 := (18, [some (.inr (.inr (some (12, 0)))), some (.inr (.inr (some (65, 0)))), some (.inl v2)], [], m)) rfl hres (fun hc hres => ?_) (fun hc hres => ?_)
      · refine e_steps 1 (s' := (23, [some (.inr (.inr (some (12, 0)))), some (.inr (.inr (some (65, 0)))), some (.inl (v2 + 1))], [], m)) rfl ?_
        refine e_let (fun (v5 : Int32) => (23, [some (.inr (.inr (some (12, 0)))), some (.inr (.inr (some (65, 0)))), some (.inl v5)], [], m)) hres (fun v5 hres => ?_)
        refine e_steps 1 (s' := (2, [some (.inr (.inr (some (12, 0)))), some (.inr (.inr (some (65, 0)))), some (.inl v5)], [], m)) rfl ?_
        obtain rfl := Option.some.inj hres
        exact e_mask (L' := [some (.inr (.inr (some (12, 0)))), some (.inr (.inr (some (65, 0)))), some (.inl v5)]) rfl (hcl1 _ rfl)
      · obtain rfl := Option.some.inj hres
        exact e_mask (L' := [none, none, some (.inl v2)]) rfl (hxl1 _ rfl)
/-- GlassThreadsModel.readThreadPart(I)V -/
def f_X12_readThreadPart (a1 : Int32) (m : mm_M) : Option (mm_M) :=
mm_b1 (f_X12_which_g65 m) fun r1 =>
mm_let (fun (m2 : mm_M) => (if (m2 12 0 29) = 0 then (mm_b1 (f_X12_step m2) fun m5 =>
mm_let (192 + (m5 67 0 8)) fun v6 =>
if mm_in v6 216 then (
mm_let (mm_w m5 69 0 v6.toNatClampNeg r1) fun m7 =>
mm_let (fun (w8 : Int32) (m9 : mm_M) => (if mm_in v6 216 then (
mm_let (mm_w m9 70 0 v6.toNatClampNeg w8) fun m11 =>
mm_let (fun (w12 : Int32) (m13 : mm_M) => (if mm_in v6 216 then (
mm_let (mm_w m13 71 0 v6.toNatClampNeg w12) fun m15 =>
if mm_in v6 216 then (
mm_let (mm_w m15 72 0 v6.toNatClampNeg 1) fun m16 =>
(mm_b1 (mm_loop (σ := Int32 × mm_M) (ρ := (mm_M)) (fun (s : Int32 × mm_M) => match s with
| (v18, m19) => (if v6 ≤ v18 then (some (.inr m19))
else (if mm_in v6 216 then (
if mm_in v18 216 then (
if (m19 69 0 v18.toNatClampNeg) ≠ r1 then (if mm_in v6 216 then (
mm_let (mm_w m19 72 0 v6.toNatClampNeg ((m19 72 0 v6.toNatClampNeg) + 0)) fun m20 =>
mm_let (v18 + 1) fun v21 =>
some (.inl (v21, m20))) else none)
else (if mm_in v6 216 then (
mm_let (mm_w m19 72 0 v6.toNatClampNeg ((m19 72 0 v6.toNatClampNeg) + 1)) fun m22 =>
mm_let (v18 + 1) fun v23 =>
some (.inl (v23, m22))) else none)) else none) else none) : Option ((Int32 × mm_M) ⊕ ((mm_M))))) mm_fu (192, m16)) fun m24 =>
mm_b1 (f_X12_need 59 m24) fun m26 =>
if (m26 12 0 29) ≠ 0 then (some m26)
else (mm_let (mm_w m26 67 0 8 ((m26 67 0 8) + 1)) fun m27 =>
some m27))) else none) else none : Option (mm_M))) fun k14 =>
if r1 ≠ 3 then (k14 0 m11)
else (mm_b2 (f_X12_readNumber 0 30000 m11) fun r28 m29 =>
k14 r28 m29)) else none : Option (mm_M))) fun k10 =>
if r1 ≠ 0 then (if r1 ≠ 2 then (if r1 ≠ 3 then (k10 0 m7)
else (mm_b2 (f_X12_readNumber 0 40000 m7) fun r30 m31 =>
k10 r30 m31))
else (mm_b2 (f_X12_readNumber 0 99 m7) fun r32 m33 =>
k10 r32 m33))
else (mm_b2 (f_X12_readNumber 1 9999 m7) fun r34 m35 =>
k10 r34 m35)) else none)
else (some m2) : Option (mm_M))) fun k3 =>
if r1 ≠ (-1) then (if (m 67 0 8) = 24 then (mm_b1 (f_X12_wrong 2 m) fun m37 =>
k3 m37)
else (if r1 ≠ 3 then (k3 m)
else (if a1 ≠ 6 then (k3 m)
else (mm_b1 (f_X12_wrong 2 m) fun m39 =>
k3 m39))))
else (mm_b1 (f_X12_wrong 1 m) fun m41 =>
k3 m41)
set_option maxHeartbeats 4000000 in
set_option maxRecDepth 100000 in
theorem k_X12_readThreadPart (d : Nat) (hd : 3 ≤ d) (a1 : Int32) (m : mm_M) (r : mm_M) (hres : f_X12_readThreadPart a1 m = some r) : mm_X d 173 [.inr (.inr (some (12, 0))), .inl a1] m (.inl none, r, 0, 0) := by
  unfold f_X12_readThreadPart at hres
  obtain ⟨d, rfl⟩ : ∃ e, d = e + 1 := ⟨d - 1, by omega⟩
  show mm_E (d + 1) 173 (0, [some (.inr (.inr (some (12, 0)))), some (.inl a1), none, none, none], [], m) (.inl none, r, 0, 0)
  refine e_steps 3 (s' := (5, [some (.inr (.inr (some (12, 0)))), some (.inl a1), none, none, none], [.inr (.inr (some (65, 0))), .inr (.inr (some (12, 0)))], m)) rfl ?_
  obtain ⟨r1, hv, hres⟩ := mm_b1_some hres
  refine e_call0 (pc := 8) (L := [some (.inr (.inr (some (12, 0)))), some (.inl a1), none, none, none]) (st := []) (m' := m) (v := some (.inl r1)) rfl (k_X12_which_g65 d (by omega)  _ _ hv) ?_
  show mm_E (d + 1) 173 (8, [some (.inr (.inr (some (12, 0)))), some (.inl a1), none, none, none], [.inl r1], m) (.inl none, r, 0, 0)
  refine e_steps 3 (s' := (11, [some (.inr (.inr (some (12, 0)))), some (.inl a1), some (.inl r1), none, none], [.inl (-1), .inl r1], m)) rfl ?_
  refine e_join (fun k3 => ∀ (m2 : mm_M), k3 m2 = some r → mm_E (d + 1) 173 (50, [some (.inr (.inr (some (12, 0)))), none, some (.inl r1), none, none], [], m2) (.inl none, r, 0, 0)) hres (fun m2 hres => ?_) (fun k3 hk3 hres => ?_)
  · refine e_steps 2 (s' := (54, [some (.inr (.inr (some (12, 0)))), none, some (.inl r1), none, none], [.inl (m2 12 0 29)], m2)) rfl ?_
    refine e_if (s1 := (58, [some (.inr (.inr (some (12, 0)))), none, some (.inl r1), none, none], [], m2)) (s2 := (57, [some (.inr (.inr (some (12, 0)))), none, some (.inl r1), none, none], [], m2)) rfl hres (fun hc hres => ?_) (fun hc hres => ?_)
    · refine e_steps 1 (s' := (59, [some (.inr (.inr (some (12, 0)))), none, some (.inl r1), none, none], [.inr (.inr (some (12, 0)))], m2)) rfl ?_
      obtain ⟨m5, hv, hres⟩ := mm_b1_some hres
      refine e_call0 (pc := 62) (L := [some (.inr (.inr (some (12, 0)))), none, some (.inl r1), none, none]) (st := []) (m' := m5) (v := none) rfl (k_X12_step d (by omega)  _ _ hv) ?_
      show mm_E (d + 1) 173 (62, [some (.inr (.inr (some (12, 0)))), none, some (.inl r1), none, none], [], m5) (.inl none, r, 0, 0)
      refine e_steps 7 (s' := (74, [some (.inr (.inr (some (12, 0)))), none, some (.inl r1), some (.inl (192 + (m5 67 0 8))), none], [], m5)) rfl ?_
      refine e_let (fun (v6 : Int32) => (74, [some (.inr (.inr (some (12, 0)))), none, some (.inl r1), some (.inl v6), none], [], m5)) hres (fun v6 hres => ?_)
      refine e_steps 4 (s' := (80, [some (.inr (.inr (some (12, 0)))), none, some (.inl r1), some (.inl v6), none], [.inl r1, .inl v6, .inr (.inr (some (69, 0)))], m5)) rfl ?_
      refine e_gd (s1 := (81, [some (.inr (.inr (some (12, 0)))), none, some (.inl r1), some (.inl v6), none], [], (mm_w m5 69 0 v6.toNatClampNeg r1))) rfl hres (fun hc hres => ?_)
      refine e_let (fun (m7 : mm_M) => (81, [some (.inr (.inr (some (12, 0)))), none, some (.inl r1), some (.inl v6), none], [], m7)) hres (fun m7 hres => ?_)
      refine e_steps 4 (s' := (87, [some (.inr (.inr (some (12, 0)))), none, some (.inl r1), some (.inl v6), none], [.inl r1, .inl v6, .inr (.inr (some (70, 0)))], m7)) rfl ?_
      refine e_join (fun k10 => ∀ (w8 : Int32) (m9 : mm_M), k10 w8 m9 = some r → mm_E (d + 1) 173 (133, [some (.inr (.inr (some (12, 0)))), none, some (.inl r1), some (.inl v6), none], [.inl w8, .inl v6, .inr (.inr (some (70, 0)))], m9) (.inl none, r, 0, 0)) hres (fun w8 m9 hres => ?_) (fun k10 hk10 hres => ?_)
      · refine e_gd (s1 := (134, [some (.inr (.inr (some (12, 0)))), none, some (.inl r1), some (.inl v6), none], [], (mm_w m9 70 0 v6.toNatClampNeg w8))) rfl hres (fun hc hres => ?_)
        refine e_let (fun (m11 : mm_M) => (134, [some (.inr (.inr (some (12, 0)))), none, some (.inl r1), some (.inl v6), none], [], m11)) hres (fun m11 hres => ?_)
        refine e_steps 5 (s' := (141, [some (.inr (.inr (some (12, 0)))), none, some (.inl r1), some (.inl v6), none], [.inl 3, .inl r1, .inl v6, .inr (.inr (some (71, 0)))], m11)) rfl ?_
        refine e_join (fun k14 => ∀ (w12 : Int32) (m13 : mm_M), k14 w12 m13 = some r → mm_E (d + 1) 173 (156, [some (.inr (.inr (some (12, 0)))), none, some (.inl r1), some (.inl v6), none], [.inl w12, .inl v6, .inr (.inr (some (71, 0)))], m13) (.inl none, r, 0, 0)) hres (fun w12 m13 hres => ?_) (fun k14 hk14 hres => ?_)
        · refine e_gd (s1 := (157, [some (.inr (.inr (some (12, 0)))), none, some (.inl r1), some (.inl v6), none], [], (mm_w m13 71 0 v6.toNatClampNeg w12))) rfl hres (fun hc hres => ?_)
          refine e_let (fun (m15 : mm_M) => (157, [some (.inr (.inr (some (12, 0)))), none, some (.inl r1), some (.inl v6), none], [], m15)) hres (fun m15 hres => ?_)
          refine e_steps 4 (s' := (163, [some (.inr (.inr (some (12, 0)))), none, some (.inl r1), some (.inl v6), none], [.inl 1, .inl v6, .inr (.inr (some (72, 0)))], m15)) rfl ?_
          refine e_gd (s1 := (164, [some (.inr (.inr (some (12, 0)))), none, some (.inl r1), some (.inl v6), none], [], (mm_w m15 72 0 v6.toNatClampNeg 1))) rfl hres (fun hc hres => ?_)
          refine e_let (fun (m16 : mm_M) => (164, [some (.inr (.inr (some (12, 0)))), none, some (.inl r1), some (.inl v6), none], [], m16)) hres (fun m16 hres => ?_)
          refine e_steps 2 (s' := (169, [some (.inr (.inr (some (12, 0)))), none, some (.inl r1), some (.inl v6), some (.inl 192)], [], m16)) rfl ?_
          refine e_mask (L' := [some (.inr (.inr (some (12, 0)))), none, some (.inl r1), some (.inl v6), some (.inl 192)]) rfl ?_
          refine e_loopb (φ := fun s => (169, [some (.inr (.inr (some (12, 0)))), none, some (.inl r1), some (.inl v6), some (.inl s.1)], [], s.2)) (K := fun t => mm_E (d + 1) 173 (206, [some (.inr (.inr (some (12, 0)))), none, none, none, none], [], t) (.inl none, r, 0, 0)) hres (fun m24 hres => ?_) (fun s ol17 hres hcl17 hxl17 => ?_)
          · show mm_E (d + 1) 173 (206, [some (.inr (.inr (some (12, 0)))), none, none, none, none], [], m24) (.inl none, r, 0, 0)
            refine e_steps 2 (s' := (209, [some (.inr (.inr (some (12, 0)))), none, none, none, none], [.inl 59, .inr (.inr (some (12, 0)))], m24)) rfl ?_
            obtain ⟨m26, hv, hres⟩ := mm_b1_some hres
            refine e_call0 (pc := 212) (L := [some (.inr (.inr (some (12, 0)))), none, none, none, none]) (st := []) (m' := m26) (v := none) rfl (k_X12_need d (by omega) 59 _ _ hv) ?_
            show mm_E (d + 1) 173 (212, [some (.inr (.inr (some (12, 0)))), none, none, none, none], [], m26) (.inl none, r, 0, 0)
            refine e_steps 2 (s' := (216, [some (.inr (.inr (some (12, 0)))), none, none, none, none], [.inl (m26 12 0 29)], m26)) rfl ?_
            refine e_if (s1 := (230, [some (.inr (.inr (some (12, 0)))), none, none, none, none], [], m26)) (s2 := (219, [some (.inr (.inr (some (12, 0)))), none, none, none, none], [], m26)) rfl hres (fun hc hres => ?_) (fun hc hres => ?_)
            · refine e_mask (L' := [none, none, none, none, none]) rfl ?_
              obtain rfl := Option.some.inj hres
              exact e_ret rfl rfl
            · refine e_steps 8 (s' := (230, [some (.inr (.inr (some (12, 0)))), none, none, none, none], [], (mm_w m26 67 0 8 ((m26 67 0 8) + 1)))) rfl ?_
              refine e_let (fun (m27 : mm_M) => (230, [some (.inr (.inr (some (12, 0)))), none, none, none, none], [], m27)) hres (fun m27 hres => ?_)
              refine e_mask (L' := [none, none, none, none, none]) rfl ?_
              obtain rfl := Option.some.inj hres
              exact e_ret rfl rfl
          · obtain ⟨v18, m19⟩ := s
            show mm_E (d + 1) 173 (169, [some (.inr (.inr (some (12, 0)))), none, some (.inl r1), some (.inl v6), some (.inl v18)], [], m19) (.inl none, r, 0, 0)
            refine e_steps 2 (s' := (172, [some (.inr (.inr (some (12, 0)))), none, some (.inl r1), some (.inl v6), some (.inl v18)], [.inl v6, .inl v18], m19)) rfl ?_
            refine e_if (s1 := (206, [some (.inr (.inr (some (12, 0)))), none, some (.inl r1), some (.inl v6), some (.inl v18)], [], m19)) (s2 := (175, [some (.inr (.inr (some (12, 0)))), none, some (.inl r1), some (.inl v6), some (.inl v18)], [], m19)) rfl hres (fun hc hres => ?_) (fun hc hres => ?_)
            · obtain rfl := Option.some.inj hres
              exact e_mask (L' := [some (.inr (.inr (some (12, 0)))), none, none, none, none]) rfl (hxl17 _ rfl)
            · refine e_steps 4 (s' := (181, [some (.inr (.inr (some (12, 0)))), none, some (.inl r1), some (.inl v6), some (.inl v18)], [.inl v6, .inr (.inr (some (72, 0))), .inl v6, .inr (.inr (some (72, 0)))], m19)) rfl ?_
              refine e_gd (s1 := (182, [some (.inr (.inr (some (12, 0)))), none, some (.inl r1), some (.inl v6), some (.inl v18)], [.inl (m19 72 0 v6.toNatClampNeg), .inl v6, .inr (.inr (some (72, 0)))], m19)) rfl hres (fun hc hres => ?_)
              refine e_steps 3 (s' := (188, [some (.inr (.inr (some (12, 0)))), none, some (.inl r1), some (.inl v6), some (.inl v18)], [.inl v18, .inr (.inr (some (69, 0))), .inl (m19 72 0 v6.toNatClampNeg), .inl v6, .inr (.inr (some (72, 0)))], m19)) rfl ?_
              refine e_gd (s1 := (189, [some (.inr (.inr (some (12, 0)))), none, some (.inl r1), some (.inl v6), some (.inl v18)], [.inl (m19 69 0 v18.toNatClampNeg), .inl (m19 72 0 v6.toNatClampNeg), .inl v6, .inr (.inr (some (72, 0)))], m19)) rfl hres (fun hc hres => ?_)
              refine e_steps 1 (s' := (190, [some (.inr (.inr (some (12, 0)))), none, some (.inl r1), some (.inl v6), some (.inl v18)], [.inl r1, .inl (m19 69 0 v18.toNatClampNeg), .inl (m19 72 0 v6.toNatClampNeg), .inl v6, .inr (.inr (some (72, 0)))], m19)) rfl ?_
              refine e_if (s1 := (197, [some (.inr (.inr (some (12, 0)))), none, some (.inl r1), some (.inl v6), some (.inl v18)], [.inl (m19 72 0 v6.toNatClampNeg), .inl v6, .inr (.inr (some (72, 0)))], m19)) (s2 := (193, [some (.inr (.inr (some (12, 0)))), none, some (.inl r1), some (.inl v6), some (.inl v18)], [.inl (m19 72 0 v6.toNatClampNeg), .inl v6, .inr (.inr (some (72, 0)))], m19)) rfl hres (fun hc hres => ?_) (fun hc hres => ?_)
              · refine e_steps 2 (s' := (199, [some (.inr (.inr (some (12, 0)))), none, some (.inl r1), some (.inl v6), some (.inl v18)], [.inl ((m19 72 0 v6.toNatClampNeg) + 0), .inl v6, .inr (.inr (some (72, 0)))], m19)) rfl ?_
                refine e_gd (s1 := (200, [some (.inr (.inr (some (12, 0)))), none, some (.inl r1), some (.inl v6), some (.inl v18)], [], (mm_w m19 72 0 v6.toNatClampNeg ((m19 72 0 v6.toNatClampNeg) + 0)))) rfl hres (fun hc hres => ?_)
                refine e_let (fun (m20 : mm_M) => (200, [some (.inr (.inr (some (12, 0)))), none, some (.inl r1), some (.inl v6), some (.inl v18)], [], m20)) hres (fun m20 hres => ?_)
                refine e_steps 1 (s' := (203, [some (.inr (.inr (some (12, 0)))), none, some (.inl r1), some (.inl v6), some (.inl (v18 + 1))], [], m20)) rfl ?_
                refine e_let (fun (v21 : Int32) => (203, [some (.inr (.inr (some (12, 0)))), none, some (.inl r1), some (.inl v6), some (.inl v21)], [], m20)) hres (fun v21 hres => ?_)
                refine e_steps 1 (s' := (169, [some (.inr (.inr (some (12, 0)))), none, some (.inl r1), some (.inl v6), some (.inl v21)], [], m20)) rfl ?_
                obtain rfl := Option.some.inj hres
                exact e_mask (L' := [some (.inr (.inr (some (12, 0)))), none, some (.inl r1), some (.inl v6), some (.inl v21)]) rfl (hcl17 _ rfl)
              · refine e_steps 3 (s' := (199, [some (.inr (.inr (some (12, 0)))), none, some (.inl r1), some (.inl v6), some (.inl v18)], [.inl ((m19 72 0 v6.toNatClampNeg) + 1), .inl v6, .inr (.inr (some (72, 0)))], m19)) rfl ?_
                refine e_gd (s1 := (200, [some (.inr (.inr (some (12, 0)))), none, some (.inl r1), some (.inl v6), some (.inl v18)], [], (mm_w m19 72 0 v6.toNatClampNeg ((m19 72 0 v6.toNatClampNeg) + 1)))) rfl hres (fun hc hres => ?_)
                refine e_let (fun (m22 : mm_M) => (200, [some (.inr (.inr (some (12, 0)))), none, some (.inl r1), some (.inl v6), some (.inl v18)], [], m22)) hres (fun m22 hres => ?_)
                refine e_steps 1 (s' := (203, [some (.inr (.inr (some (12, 0)))), none, some (.inl r1), some (.inl v6), some (.inl (v18 + 1))], [], m22)) rfl ?_
                refine e_let (fun (v23 : Int32) => (203, [some (.inr (.inr (some (12, 0)))), none, some (.inl r1), some (.inl v6), some (.inl v23)], [], m22)) hres (fun v23 hres => ?_)
                refine e_steps 1 (s' := (169, [some (.inr (.inr (some (12, 0)))), none, some (.inl r1), some (.inl v6), some (.inl v23)], [], m22)) rfl ?_
                obtain rfl := Option.some.inj hres
                exact e_mask (L' := [some (.inr (.inr (some (12, 0)))), none, some (.inl r1), some (.inl v6), some (.inl v23)]) rfl (hcl17 _ rfl)
        · refine e_if (s1 := (155, [some (.inr (.inr (some (12, 0)))), none, some (.inl r1), some (.inl v6), none], [.inl v6, .inr (.inr (some (71, 0)))], m11)) (s2 := (144, [some (.inr (.inr (some (12, 0)))), none, some (.inl r1), some (.inl v6), none], [.inl v6, .inr (.inr (some (71, 0)))], m11)) rfl hres (fun hc hres => ?_) (fun hc hres => ?_)
          · refine e_steps 1 (s' := (156, [some (.inr (.inr (some (12, 0)))), none, some (.inl r1), some (.inl v6), none], [.inl 0, .inl v6, .inr (.inr (some (71, 0)))], m11)) rfl ?_
            exact e_mask (L' := [some (.inr (.inr (some (12, 0)))), none, some (.inl r1), some (.inl v6), none]) rfl (hk14 _ _ hres)
          · refine e_steps 3 (s' := (149, [some (.inr (.inr (some (12, 0)))), none, some (.inl r1), some (.inl v6), none], [.inl 30000, .inl 0, .inr (.inr (some (12, 0))), .inl v6, .inr (.inr (some (71, 0)))], m11)) rfl ?_
            obtain ⟨r28, m29, hv, hres⟩ := mm_b2_some hres
            refine e_call0 (pc := 152) (L := [some (.inr (.inr (some (12, 0)))), none, some (.inl r1), some (.inl v6), none]) (st := [.inl v6, .inr (.inr (some (71, 0)))]) (m' := m29) (v := some (.inl r28)) rfl (k_X12_readNumber d (by omega) 0 30000 _ _ hv) ?_
            show mm_E (d + 1) 173 (152, [some (.inr (.inr (some (12, 0)))), none, some (.inl r1), some (.inl v6), none], [.inl r28, .inl v6, .inr (.inr (some (71, 0)))], m29) (.inl none, r, 0, 0)
            refine e_steps 1 (s' := (156, [some (.inr (.inr (some (12, 0)))), none, some (.inl r1), some (.inl v6), none], [.inl r28, .inl v6, .inr (.inr (some (71, 0)))], m29)) rfl ?_
            exact e_mask (L' := [some (.inr (.inr (some (12, 0)))), none, some (.inl r1), some (.inl v6), none]) rfl (hk14 _ _ hres)
      · refine e_if (s1 := (101, [some (.inr (.inr (some (12, 0)))), none, some (.inl r1), some (.inl v6), none], [.inl v6, .inr (.inr (some (70, 0)))], m7)) (s2 := (90, [some (.inr (.inr (some (12, 0)))), none, some (.inl r1), some (.inl v6), none], [.inl v6, .inr (.inr (some (70, 0)))], m7)) rfl hres (fun hc hres => ?_) (fun hc hres => ?_)
        · refine e_steps 2 (s' := (103, [some (.inr (.inr (some (12, 0)))), none, some (.inl r1), some (.inl v6), none], [.inl 2, .inl r1, .inl v6, .inr (.inr (some (70, 0)))], m7)) rfl ?_
          refine e_if (s1 := (116, [some (.inr (.inr (some (12, 0)))), none, some (.inl r1), some (.inl v6), none], [.inl v6, .inr (.inr (some (70, 0)))], m7)) (s2 := (106, [some (.inr (.inr (some (12, 0)))), none, some (.inl r1), some (.inl v6), none], [.inl v6, .inr (.inr (some (70, 0)))], m7)) rfl hres (fun hc hres => ?_) (fun hc hres => ?_)
          · refine e_steps 2 (s' := (118, [some (.inr (.inr (some (12, 0)))), none, some (.inl r1), some (.inl v6), none], [.inl 3, .inl r1, .inl v6, .inr (.inr (some (70, 0)))], m7)) rfl ?_
            refine e_if (s1 := (132, [some (.inr (.inr (some (12, 0)))), none, some (.inl r1), some (.inl v6), none], [.inl v6, .inr (.inr (some (70, 0)))], m7)) (s2 := (121, [some (.inr (.inr (some (12, 0)))), none, some (.inl r1), some (.inl v6), none], [.inl v6, .inr (.inr (some (70, 0)))], m7)) rfl hres (fun hc hres => ?_) (fun hc hres => ?_)
            · refine e_steps 1 (s' := (133, [some (.inr (.inr (some (12, 0)))), none, some (.inl r1), some (.inl v6), none], [.inl 0, .inl v6, .inr (.inr (some (70, 0)))], m7)) rfl ?_
              exact e_mask (L' := [some (.inr (.inr (some (12, 0)))), none, some (.inl r1), some (.inl v6), none]) rfl (hk10 _ _ hres)
            · refine e_steps 3 (s' := (126, [some (.inr (.inr (some (12, 0)))), none, some (.inl r1), some (.inl v6), none], [.inl 40000, .inl 0, .inr (.inr (some (12, 0))), .inl v6, .inr (.inr (some (70, 0)))], m7)) rfl ?_
              obtain ⟨r30, m31, hv, hres⟩ := mm_b2_some hres
              refine e_call0 (pc := 129) (L := [some (.inr (.inr (some (12, 0)))), none, some (.inl r1), some (.inl v6), none]) (st := [.inl v6, .inr (.inr (some (70, 0)))]) (m' := m31) (v := some (.inl r30)) rfl (k_X12_readNumber d (by omega) 0 40000 _ _ hv) ?_
              show mm_E (d + 1) 173 (129, [some (.inr (.inr (some (12, 0)))), none, some (.inl r1), some (.inl v6), none], [.inl r30, .inl v6, .inr (.inr (some (70, 0)))], m31) (.inl none, r, 0, 0)
              refine e_steps 1 (s' := (133, [some (.inr (.inr (some (12, 0)))), none, some (.inl r1), some (.inl v6), none], [.inl r30, .inl v6, .inr (.inr (some (70, 0)))], m31)) rfl ?_
              exact e_mask (L' := [some (.inr (.inr (some (12, 0)))), none, some (.inl r1), some (.inl v6), none]) rfl (hk10 _ _ hres)
          · refine e_steps 3 (s' := (110, [some (.inr (.inr (some (12, 0)))), none, some (.inl r1), some (.inl v6), none], [.inl 99, .inl 0, .inr (.inr (some (12, 0))), .inl v6, .inr (.inr (some (70, 0)))], m7)) rfl ?_
            obtain ⟨r32, m33, hv, hres⟩ := mm_b2_some hres
            refine e_call0 (pc := 113) (L := [some (.inr (.inr (some (12, 0)))), none, some (.inl r1), some (.inl v6), none]) (st := [.inl v6, .inr (.inr (some (70, 0)))]) (m' := m33) (v := some (.inl r32)) rfl (k_X12_readNumber d (by omega) 0 99 _ _ hv) ?_
            show mm_E (d + 1) 173 (113, [some (.inr (.inr (some (12, 0)))), none, some (.inl r1), some (.inl v6), none], [.inl r32, .inl v6, .inr (.inr (some (70, 0)))], m33) (.inl none, r, 0, 0)
            refine e_steps 1 (s' := (133, [some (.inr (.inr (some (12, 0)))), none, some (.inl r1), some (.inl v6), none], [.inl r32, .inl v6, .inr (.inr (some (70, 0)))], m33)) rfl ?_
            exact e_mask (L' := [some (.inr (.inr (some (12, 0)))), none, some (.inl r1), some (.inl v6), none]) rfl (hk10 _ _ hres)
        · refine e_steps 3 (s' := (95, [some (.inr (.inr (some (12, 0)))), none, some (.inl r1), some (.inl v6), none], [.inl 9999, .inl 1, .inr (.inr (some (12, 0))), .inl v6, .inr (.inr (some (70, 0)))], m7)) rfl ?_
          obtain ⟨r34, m35, hv, hres⟩ := mm_b2_some hres
          refine e_call0 (pc := 98) (L := [some (.inr (.inr (some (12, 0)))), none, some (.inl r1), some (.inl v6), none]) (st := [.inl v6, .inr (.inr (some (70, 0)))]) (m' := m35) (v := some (.inl r34)) rfl (k_X12_readNumber d (by omega) 1 9999 _ _ hv) ?_
          show mm_E (d + 1) 173 (98, [some (.inr (.inr (some (12, 0)))), none, some (.inl r1), some (.inl v6), none], [.inl r34, .inl v6, .inr (.inr (some (70, 0)))], m35) (.inl none, r, 0, 0)
          refine e_steps 1 (s' := (133, [some (.inr (.inr (some (12, 0)))), none, some (.inl r1), some (.inl v6), none], [.inl r34, .inl v6, .inr (.inr (some (70, 0)))], m35)) rfl ?_
          exact e_mask (L' := [some (.inr (.inr (some (12, 0)))), none, some (.inl r1), some (.inl v6), none]) rfl (hk10 _ _ hres)
    · obtain rfl := Option.some.inj hres
      exact e_ret rfl rfl
  · refine e_if (s1 := (22, [some (.inr (.inr (some (12, 0)))), some (.inl a1), some (.inl r1), none, none], [], m)) (s2 := (14, [some (.inr (.inr (some (12, 0)))), some (.inl a1), some (.inl r1), none, none], [], m)) rfl hres (fun hc hres => ?_) (fun hc hres => ?_)
    · refine e_steps 5 (s' := (31, [some (.inr (.inr (some (12, 0)))), some (.inl a1), some (.inl r1), none, none], [.inl 24, .inl (m 67 0 8)], m)) rfl ?_
      refine e_if (s1 := (45, [some (.inr (.inr (some (12, 0)))), some (.inl a1), some (.inl r1), none, none], [], m)) (s2 := (34, [some (.inr (.inr (some (12, 0)))), some (.inl a1), some (.inl r1), none, none], [], m)) rfl hres (fun hc hres => ?_) (fun hc hres => ?_)
      · refine e_mask (L' := [some (.inr (.inr (some (12, 0)))), none, some (.inl r1), none, none]) rfl ?_
        refine e_steps 2 (s' := (47, [some (.inr (.inr (some (12, 0)))), none, some (.inl r1), none, none], [.inl 2, .inr (.inr (some (12, 0)))], m)) rfl ?_
        obtain ⟨m37, hv, hres⟩ := mm_b1_some hres
        refine e_call0 (pc := 50) (L := [some (.inr (.inr (some (12, 0)))), none, some (.inl r1), none, none]) (st := []) (m' := m37) (v := none) rfl (k_X12_wrong d (by omega) 2 _ _ hv) ?_
        show mm_E (d + 1) 173 (50, [some (.inr (.inr (some (12, 0)))), none, some (.inl r1), none, none], [], m37) (.inl none, r, 0, 0)
        exact e_mask (L' := [some (.inr (.inr (some (12, 0)))), none, some (.inl r1), none, none]) rfl (hk3 _ hres)
      · refine e_steps 2 (s' := (36, [some (.inr (.inr (some (12, 0)))), some (.inl a1), some (.inl r1), none, none], [.inl 3, .inl r1], m)) rfl ?_
        refine e_if (s1 := (50, [some (.inr (.inr (some (12, 0)))), some (.inl a1), some (.inl r1), none, none], [], m)) (s2 := (39, [some (.inr (.inr (some (12, 0)))), some (.inl a1), some (.inl r1), none, none], [], m)) rfl hres (fun hc hres => ?_) (fun hc hres => ?_)
        · exact e_mask (L' := [some (.inr (.inr (some (12, 0)))), none, some (.inl r1), none, none]) rfl (hk3 _ hres)
        · refine e_steps 2 (s' := (42, [some (.inr (.inr (some (12, 0)))), some (.inl a1), some (.inl r1), none, none], [.inl 6, .inl a1], m)) rfl ?_
          refine e_if (s1 := (50, [some (.inr (.inr (some (12, 0)))), some (.inl a1), some (.inl r1), none, none], [], m)) (s2 := (45, [some (.inr (.inr (some (12, 0)))), some (.inl a1), some (.inl r1), none, none], [], m)) rfl hres (fun hc hres => ?_) (fun hc hres => ?_)
          · exact e_mask (L' := [some (.inr (.inr (some (12, 0)))), none, some (.inl r1), none, none]) rfl (hk3 _ hres)
          · refine e_mask (L' := [some (.inr (.inr (some (12, 0)))), none, some (.inl r1), none, none]) rfl ?_
            refine e_steps 2 (s' := (47, [some (.inr (.inr (some (12, 0)))), none, some (.inl r1), none, none], [.inl 2, .inr (.inr (some (12, 0)))], m)) rfl ?_
            obtain ⟨m39, hv, hres⟩ := mm_b1_some hres
            refine e_call0 (pc := 50) (L := [some (.inr (.inr (some (12, 0)))), none, some (.inl r1), none, none]) (st := []) (m' := m39) (v := none) rfl (k_X12_wrong d (by omega) 2 _ _ hv) ?_
            show mm_E (d + 1) 173 (50, [some (.inr (.inr (some (12, 0)))), none, some (.inl r1), none, none], [], m39) (.inl none, r, 0, 0)
            exact e_mask (L' := [some (.inr (.inr (some (12, 0)))), none, some (.inl r1), none, none]) rfl (hk3 _ hres)
    · refine e_steps 2 (s' := (16, [some (.inr (.inr (some (12, 0)))), some (.inl a1), some (.inl r1), none, none], [.inl 1, .inr (.inr (some (12, 0)))], m)) rfl ?_
      obtain ⟨m41, hv, hres⟩ := mm_b1_some hres
      refine e_call0 (pc := 19) (L := [some (.inr (.inr (some (12, 0)))), some (.inl a1), some (.inl r1), none, none]) (st := []) (m' := m41) (v := none) rfl (k_X12_wrong d (by omega) 1 _ _ hv) ?_
      show mm_E (d + 1) 173 (19, [some (.inr (.inr (some (12, 0)))), some (.inl a1), some (.inl r1), none, none], [], m41) (.inl none, r, 0, 0)
      refine e_steps 1 (s' := (50, [some (.inr (.inr (some (12, 0)))), some (.inl a1), some (.inl r1), none, none], [], m41)) rfl ?_
      exact e_mask (L' := [some (.inr (.inr (some (12, 0)))), none, some (.inl r1), none, none]) rfl (hk3 _ hres)
/-- GlassThreadsModel.thread(II)I -/
def f_X12_thread (a1 : Int32) (a2 : Int32) (m : mm_M) : Option (Int32 × mm_M) :=
mm_let (mm_w m 12 0 3 0) fun m1 =>
if a1 < 0 then (mm_b2 (f_X12_fail 1 m1) fun r2 m3 =>
some (r2, m3))
else (if a1 ≤ (m1 12 0 21) then (mm_b1 (f_X12_begin a1 m1) fun m5 =>
if (m5 12 0 4) = 8 then (some ((-9), m5))
else (mm_b1 (f_X12_isIn a2 0 99 m5) fun r6 =>
if r6 ≠ 0 then (mm_let (mm_w m5 67 0 8 0) fun m7 =>
(mm_b1 (mm_loop (σ := mm_M) (ρ := (mm_M)) (fun (m9 : mm_M) => ((mm_b1 (mm_loop (σ := Int32 × Int32) (ρ := (Int32)) (fun (s : Int32 × Int32) => match s with
| (v11, v12) => (if (m9 67 0 8) ≤ v12 then (some (.inr v11))
else (if mm_in (192 + v12) 216 then (
if (m9 69 0 (192 + v12).toNatClampNeg) ≠ 3 then (mm_let (v11 + 0) fun v13 =>
mm_let (v12 + 1) fun v14 =>
some (.inl (v13, v14)))
else (mm_let (v11 + 1) fun v15 =>
mm_let (v12 + 1) fun v16 =>
some (.inl (v15, v16)))) else none) : Option ((Int32 × Int32) ⊕ ((Int32))))) mm_fu (0, 0)) fun v17 =>
mm_b1 (f_X12_readThreadPart v17 m9) fun m19 =>
if (m19 12 0 29) ≠ 0 then (some (.inr m19))
else (if (m19 12 0 24) ≠ 0 then (some (.inl m19))
else (some (.inr m19)))) : Option ((mm_M) ⊕ ((mm_M))))) mm_fu m7) fun m20 =>
if (m20 12 0 29) = 0 then (if mm_in (m20 12 0 4) 9 then (
mm_let (mm_w m20 67 0 ((m20 12 0 4).toNatClampNeg) (m20 67 0 8)) fun m21 =>
if mm_in (m21 12 0 4) 8 then (
mm_let (mm_w m21 68 0 ((m21 12 0 4).toNatClampNeg) a2) fun m22 =>
(mm_b1 (mm_loop (σ := Int32 × mm_M) (ρ := (mm_M)) (fun (s : Int32 × mm_M) => match s with
| (v24, m25) => (if 24 ≤ v24 then (some (.inr m25))
else (if mm_in (192 + v24) 216 then (
if mm_in (((m25 12 0 4) * 24) + v24) 216 then (
mm_let (mm_w m25 69 0 ((((m25 12 0 4) * 24) + v24).toNatClampNeg) (m25 69 0 (192 + v24).toNatClampNeg)) fun m26 =>
if mm_in (192 + v24) 216 then (
if mm_in (((m26 12 0 4) * 24) + v24) 216 then (
mm_let (mm_w m26 70 0 ((((m26 12 0 4) * 24) + v24).toNatClampNeg) (m26 70 0 (192 + v24).toNatClampNeg)) fun m27 =>
if mm_in (192 + v24) 216 then (
if mm_in (((m27 12 0 4) * 24) + v24) 216 then (
mm_let (mm_w m27 71 0 ((((m27 12 0 4) * 24) + v24).toNatClampNeg) (m27 71 0 (192 + v24).toNatClampNeg)) fun m28 =>
if mm_in (192 + v24) 216 then (
if mm_in (((m28 12 0 4) * 24) + v24) 216 then (
mm_let (mm_w m28 72 0 ((((m28 12 0 4) * 24) + v24).toNatClampNeg) (m28 72 0 (192 + v24).toNatClampNeg)) fun m29 =>
mm_let (v24 + 1) fun v30 =>
some (.inl (v30, m29))) else none) else none) else none) else none) else none) else none) else none) else none) : Option ((Int32 × mm_M) ⊕ ((mm_M))))) mm_fu (0, m22)) fun m31 =>
mm_let (mm_w m31 12 0 4 ((m31 12 0 4) + 1)) fun m32 =>
some (((m32 12 0 4) - 1), m32))) else none) else none)
else (mm_let (mm_w m20 12 0 31 (m20 12 0 30)) fun m33 =>
some (((-1) - (m33 12 0 29)), m33))))
else (some ((-9), m5))))
else (mm_b2 (f_X12_fail 1 m1) fun r34 m35 =>
some (r34, m35)))
set_option maxHeartbeats 4000000 in
set_option maxRecDepth 100000 in
theorem k_X12_thread (d : Nat) (hd : 4 ≤ d) (a1 : Int32) (a2 : Int32) (m : mm_M) (r : Int32 × mm_M) (hres : f_X12_thread a1 a2 m = some r) : mm_X d 174 [.inr (.inr (some (12, 0))), .inl a1, .inl a2] m (.inl (some (.inl r.1)), r.2, 0, 0) := by
  unfold f_X12_thread at hres
  obtain ⟨d, rfl⟩ : ∃ e, d = e + 1 := ⟨d - 1, by omega⟩
  show mm_E (d + 1) 174 (0, [some (.inr (.inr (some (12, 0)))), some (.inl a1), some (.inl a2), none, none], [], m) (.inl (some (.inl r.1)), r.2, 0, 0)
  refine e_steps 3 (s' := (5, [some (.inr (.inr (some (12, 0)))), some (.inl a1), some (.inl a2), none, none], [], (mm_w m 12 0 3 0))) rfl ?_
  refine e_let (fun (m1 : mm_M) => (5, [some (.inr (.inr (some (12, 0)))), some (.inl a1), some (.inl a2), none, none], [], m1)) hres (fun m1 hres => ?_)
  refine e_steps 1 (s' := (6, [some (.inr (.inr (some (12, 0)))), some (.inl a1), some (.inl a2), none, none], [.inl a1], m1)) rfl ?_
  refine e_if (s1 := (17, [some (.inr (.inr (some (12, 0)))), some (.inl a1), some (.inl a2), none, none], [], m1)) (s2 := (9, [some (.inr (.inr (some (12, 0)))), some (.inl a1), some (.inl a2), none, none], [], m1)) rfl hres (fun hc hres => ?_) (fun hc hres => ?_)
  · refine e_mask (L' := [some (.inr (.inr (some (12, 0)))), none, none, none, none]) rfl ?_
    refine e_steps 2 (s' := (19, [some (.inr (.inr (some (12, 0)))), none, none, none, none], [.inl 1, .inr (.inr (some (12, 0)))], m1)) rfl ?_
    obtain ⟨r2, m3, hv, hres⟩ := mm_b2_some hres
    refine e_call0 (pc := 22) (L := [some (.inr (.inr (some (12, 0)))), none, none, none, none]) (st := []) (m' := m3) (v := some (.inl r2)) rfl (k_X12_fail d (by omega) 1 _ _ hv) ?_
    show mm_E (d + 1) 174 (22, [some (.inr (.inr (some (12, 0)))), none, none, none, none], [.inl r2], m3) (.inl (some (.inl r.1)), r.2, 0, 0)
    obtain rfl := Option.some.inj hres
    exact e_ret rfl rfl
  · refine e_steps 3 (s' := (14, [some (.inr (.inr (some (12, 0)))), some (.inl a1), some (.inl a2), none, none], [.inl (m1 12 0 21), .inl a1], m1)) rfl ?_
    refine e_if (s1 := (23, [some (.inr (.inr (some (12, 0)))), some (.inl a1), some (.inl a2), none, none], [], m1)) (s2 := (17, [some (.inr (.inr (some (12, 0)))), some (.inl a1), some (.inl a2), none, none], [], m1)) rfl hres (fun hc hres => ?_) (fun hc hres => ?_)
    · refine e_steps 2 (s' := (25, [some (.inr (.inr (some (12, 0)))), some (.inl a1), some (.inl a2), none, none], [.inl a1, .inr (.inr (some (12, 0)))], m1)) rfl ?_
      obtain ⟨m5, hv, hres⟩ := mm_b1_some hres
      refine e_call0 (pc := 28) (L := [some (.inr (.inr (some (12, 0)))), some (.inl a1), some (.inl a2), none, none]) (st := []) (m' := m5) (v := none) rfl (k_X12_begin d (by omega) a1 _ _ hv) ?_
      show mm_E (d + 1) 174 (28, [some (.inr (.inr (some (12, 0)))), some (.inl a1), some (.inl a2), none, none], [], m5) (.inl (some (.inl r.1)), r.2, 0, 0)
      refine e_steps 3 (s' := (34, [some (.inr (.inr (some (12, 0)))), some (.inl a1), some (.inl a2), none, none], [.inl 8, .inl (m5 12 0 4)], m5)) rfl ?_
      refine e_if (s1 := (47, [some (.inr (.inr (some (12, 0)))), some (.inl a1), some (.inl a2), none, none], [], m5)) (s2 := (37, [some (.inr (.inr (some (12, 0)))), some (.inl a1), some (.inl a2), none, none], [], m5)) rfl hres (fun hc hres => ?_) (fun hc hres => ?_)
      · refine e_mask (L' := [none, none, none, none, none]) rfl ?_
        refine e_steps 1 (s' := (49, [none, none, none, none, none], [.inl (-9)], m5)) rfl ?_
        obtain rfl := Option.some.inj hres
        exact e_ret rfl rfl
      · refine e_steps 3 (s' := (41, [some (.inr (.inr (some (12, 0)))), some (.inl a1), some (.inl a2), none, none], [.inl 99, .inl 0, .inl a2], m5)) rfl ?_
        obtain ⟨r6, hv, hres⟩ := mm_b1_some hres
        refine e_call0 (pc := 44) (L := [some (.inr (.inr (some (12, 0)))), some (.inl a1), some (.inl a2), none, none]) (st := []) (m' := m5) (v := some (.inl r6)) rfl (k_X12_isIn d (by omega) a2 0 99 _ _ hv) ?_
        show mm_E (d + 1) 174 (44, [some (.inr (.inr (some (12, 0)))), some (.inl a1), some (.inl a2), none, none], [.inl r6], m5) (.inl (some (.inl r.1)), r.2, 0, 0)
        refine e_if (s1 := (50, [some (.inr (.inr (some (12, 0)))), some (.inl a1), some (.inl a2), none, none], [], m5)) (s2 := (47, [some (.inr (.inr (some (12, 0)))), some (.inl a1), some (.inl a2), none, none], [], m5)) rfl hres (fun hc hres => ?_) (fun hc hres => ?_)
        · refine e_steps 5 (s' := (58, [some (.inr (.inr (some (12, 0)))), some (.inl a1), some (.inl a2), none, none], [], (mm_w m5 67 0 8 0))) rfl ?_
          refine e_let (fun (m7 : mm_M) => (58, [some (.inr (.inr (some (12, 0)))), some (.inl a1), some (.inl a2), none, none], [], m7)) hres (fun m7 hres => ?_)
          refine e_mask (L' := [some (.inr (.inr (some (12, 0)))), none, some (.inl a2), none, none]) rfl ?_
          refine e_loopb (φ := fun s => (58, [some (.inr (.inr (some (12, 0)))), none, some (.inl a2), none, none], [], s)) (K := fun t => mm_E (d + 1) 174 (123, [some (.inr (.inr (some (12, 0)))), none, some (.inl a2), none, none], [], t) (.inl (some (.inl r.1)), r.2, 0, 0)) hres (fun m20 hres => ?_) (fun m9 ol8 hres hcl8 hxl8 => ?_)
          · show mm_E (d + 1) 174 (123, [some (.inr (.inr (some (12, 0)))), none, some (.inl a2), none, none], [], m20) (.inl (some (.inl r.1)), r.2, 0, 0)
            refine e_steps 2 (s' := (127, [some (.inr (.inr (some (12, 0)))), none, some (.inl a2), none, none], [.inl (m20 12 0 29)], m20)) rfl ?_
            refine e_if (s1 := (145, [some (.inr (.inr (some (12, 0)))), none, some (.inl a2), none, none], [], m20)) (s2 := (130, [some (.inr (.inr (some (12, 0)))), none, some (.inl a2), none, none], [], m20)) rfl hres (fun hc hres => ?_) (fun hc hres => ?_)
            · refine e_steps 8 (s' := (160, [some (.inr (.inr (some (12, 0)))), none, some (.inl a2), none, none], [.inl (m20 67 0 8), .inl (m20 12 0 4), .inr (.inr (some (67, 0)))], m20)) rfl ?_
              refine e_gd (s1 := (161, [some (.inr (.inr (some (12, 0)))), none, some (.inl a2), none, none], [], (mm_w m20 67 0 ((m20 12 0 4).toNatClampNeg) (m20 67 0 8)))) rfl hres (fun hc hres => ?_)
              refine e_let (fun (m21 : mm_M) => (161, [some (.inr (.inr (some (12, 0)))), none, some (.inl a2), none, none], [], m21)) hres (fun m21 hres => ?_)
              refine e_steps 5 (s' := (170, [some (.inr (.inr (some (12, 0)))), none, some (.inl a2), none, none], [.inl a2, .inl (m21 12 0 4), .inr (.inr (some (68, 0)))], m21)) rfl ?_
              refine e_gd (s1 := (171, [some (.inr (.inr (some (12, 0)))), none, some (.inl a2), none, none], [], (mm_w m21 68 0 ((m21 12 0 4).toNatClampNeg) a2))) rfl hres (fun hc hres => ?_)
              refine e_let (fun (m22 : mm_M) => (171, [some (.inr (.inr (some (12, 0)))), none, some (.inl a2), none, none], [], m22)) hres (fun m22 hres => ?_)
              refine e_steps 2 (s' := (173, [some (.inr (.inr (some (12, 0)))), none, some (.inl a2), some (.inl 0), none], [], m22)) rfl ?_
              refine e_mask (L' := [some (.inr (.inr (some (12, 0)))), none, none, some (.inl 0), none]) rfl ?_
              refine e_loopb (φ := fun s => (173, [some (.inr (.inr (some (12, 0)))), none, none, some (.inl s.1), none], [], s.2)) (K := fun t => mm_E (d + 1) 174 (281, [some (.inr (.inr (some (12, 0)))), none, none, none, none], [], t) (.inl (some (.inl r.1)), r.2, 0, 0)) hres (fun m31 hres => ?_) (fun s ol23 hres hcl23 hxl23 => ?_)
              · show mm_E (d + 1) 174 (281, [some (.inr (.inr (some (12, 0)))), none, none, none, none], [], m31) (.inl (some (.inl r.1)), r.2, 0, 0)
                refine e_steps 6 (s' := (291, [some (.inr (.inr (some (12, 0)))), none, none, none, none], [], (mm_w m31 12 0 4 ((m31 12 0 4) + 1)))) rfl ?_
                refine e_let (fun (m32 : mm_M) => (291, [some (.inr (.inr (some (12, 0)))), none, none, none, none], [], m32)) hres (fun m32 hres => ?_)
                refine e_steps 4 (s' := (297, [some (.inr (.inr (some (12, 0)))), none, none, none, none], [.inl ((m32 12 0 4) - 1)], m32)) rfl ?_
                obtain rfl := Option.some.inj hres
                exact e_ret rfl rfl
              · obtain ⟨v24, m25⟩ := s
                show mm_E (d + 1) 174 (173, [some (.inr (.inr (some (12, 0)))), none, none, some (.inl v24), none], [], m25) (.inl (some (.inl r.1)), r.2, 0, 0)
                refine e_steps 2 (s' := (176, [some (.inr (.inr (some (12, 0)))), none, none, some (.inl v24), none], [.inl 24, .inl v24], m25)) rfl ?_
                refine e_if (s1 := (281, [some (.inr (.inr (some (12, 0)))), none, none, some (.inl v24), none], [], m25)) (s2 := (179, [some (.inr (.inr (some (12, 0)))), none, none, some (.inl v24), none], [], m25)) rfl hres (fun hc hres => ?_) (fun hc hres => ?_)
                · obtain rfl := Option.some.inj hres
                  exact e_mask (L' := [some (.inr (.inr (some (12, 0)))), none, none, none, none]) rfl (hxl23 _ rfl)
                · refine e_steps 13 (s' := (201, [some (.inr (.inr (some (12, 0)))), none, none, some (.inl v24), none], [.inl (192 + v24), .inr (.inr (some (69, 0))), .inl (((m25 12 0 4) * 24) + v24), .inr (.inr (some (69, 0)))], m25)) rfl ?_
                  refine e_gd (s1 := (202, [some (.inr (.inr (some (12, 0)))), none, none, some (.inl v24), none], [.inl (m25 69 0 (192 + v24).toNatClampNeg), .inl (((m25 12 0 4) * 24) + v24), .inr (.inr (some (69, 0)))], m25)) rfl hres (fun hc hres => ?_)
                  refine e_gd (s1 := (203, [some (.inr (.inr (some (12, 0)))), none, none, some (.inl v24), none], [], (mm_w m25 69 0 ((((m25 12 0 4) * 24) + v24).toNatClampNeg) (m25 69 0 (192 + v24).toNatClampNeg)))) rfl hres (fun hc hres => ?_)
                  refine e_let (fun (m26 : mm_M) => (203, [some (.inr (.inr (some (12, 0)))), none, none, some (.inl v24), none], [], m26)) hres (fun m26 hres => ?_)
                  refine e_steps 13 (s' := (225, [some (.inr (.inr (some (12, 0)))), none, none, some (.inl v24), none], [.inl (192 + v24), .inr (.inr (some (70, 0))), .inl (((m26 12 0 4) * 24) + v24), .inr (.inr (some (70, 0)))], m26)) rfl ?_
                  refine e_gd (s1 := (226, [some (.inr (.inr (some (12, 0)))), none, none, some (.inl v24), none], [.inl (m26 70 0 (192 + v24).toNatClampNeg), .inl (((m26 12 0 4) * 24) + v24), .inr (.inr (some (70, 0)))], m26)) rfl hres (fun hc hres => ?_)
                  refine e_gd (s1 := (227, [some (.inr (.inr (some (12, 0)))), none, none, some (.inl v24), none], [], (mm_w m26 70 0 ((((m26 12 0 4) * 24) + v24).toNatClampNeg) (m26 70 0 (192 + v24).toNatClampNeg)))) rfl hres (fun hc hres => ?_)
                  refine e_let (fun (m27 : mm_M) => (227, [some (.inr (.inr (some (12, 0)))), none, none, some (.inl v24), none], [], m27)) hres (fun m27 hres => ?_)
                  refine e_steps 13 (s' := (249, [some (.inr (.inr (some (12, 0)))), none, none, some (.inl v24), none], [.inl (192 + v24), .inr (.inr (some (71, 0))), .inl (((m27 12 0 4) * 24) + v24), .inr (.inr (some (71, 0)))], m27)) rfl ?_
                  refine e_gd (s1 := (250, [some (.inr (.inr (some (12, 0)))), none, none, some (.inl v24), none], [.inl (m27 71 0 (192 + v24).toNatClampNeg), .inl (((m27 12 0 4) * 24) + v24), .inr (.inr (some (71, 0)))], m27)) rfl hres (fun hc hres => ?_)
                  refine e_gd (s1 := (251, [some (.inr (.inr (some (12, 0)))), none, none, some (.inl v24), none], [], (mm_w m27 71 0 ((((m27 12 0 4) * 24) + v24).toNatClampNeg) (m27 71 0 (192 + v24).toNatClampNeg)))) rfl hres (fun hc hres => ?_)
                  refine e_let (fun (m28 : mm_M) => (251, [some (.inr (.inr (some (12, 0)))), none, none, some (.inl v24), none], [], m28)) hres (fun m28 hres => ?_)
                  refine e_steps 13 (s' := (273, [some (.inr (.inr (some (12, 0)))), none, none, some (.inl v24), none], [.inl (192 + v24), .inr (.inr (some (72, 0))), .inl (((m28 12 0 4) * 24) + v24), .inr (.inr (some (72, 0)))], m28)) rfl ?_
                  refine e_gd (s1 := (274, [some (.inr (.inr (some (12, 0)))), none, none, some (.inl v24), none], [.inl (m28 72 0 (192 + v24).toNatClampNeg), .inl (((m28 12 0 4) * 24) + v24), .inr (.inr (some (72, 0)))], m28)) rfl hres (fun hc hres => ?_)
                  refine e_gd (s1 := (275, [some (.inr (.inr (some (12, 0)))), none, none, some (.inl v24), none], [], (mm_w m28 72 0 ((((m28 12 0 4) * 24) + v24).toNatClampNeg) (m28 72 0 (192 + v24).toNatClampNeg)))) rfl hres (fun hc hres => ?_)
                  refine e_let (fun (m29 : mm_M) => (275, [some (.inr (.inr (some (12, 0)))), none, none, some (.inl v24), none], [], m29)) hres (fun m29 hres => ?_)
                  refine e_steps 1 (s' := (278, [some (.inr (.inr (some (12, 0)))), none, none, some (.inl (v24 + 1)), none], [], m29)) rfl ?_
                  refine e_let (fun (v30 : Int32) => (278, [some (.inr (.inr (some (12, 0)))), none, none, some (.inl v30), none], [], m29)) hres (fun v30 hres => ?_)
                  refine e_steps 1 (s' := (173, [some (.inr (.inr (some (12, 0)))), none, none, some (.inl v30), none], [], m29)) rfl ?_
                  obtain rfl := Option.some.inj hres
                  exact e_mask (L' := [some (.inr (.inr (some (12, 0)))), none, none, some (.inl v30), none]) rfl (hcl23 _ rfl)
            · refine e_steps 4 (s' := (138, [some (.inr (.inr (some (12, 0)))), none, some (.inl a2), none, none], [], (mm_w m20 12 0 31 (m20 12 0 30)))) rfl ?_
              refine e_let (fun (m33 : mm_M) => (138, [some (.inr (.inr (some (12, 0)))), none, some (.inl a2), none, none], [], m33)) hres (fun m33 hres => ?_)
              refine e_steps 4 (s' := (144, [some (.inr (.inr (some (12, 0)))), none, some (.inl a2), none, none], [.inl ((-1) - (m33 12 0 29))], m33)) rfl ?_
              obtain rfl := Option.some.inj hres
              exact e_ret rfl rfl
          · show mm_E (d + 1) 174 (58, [some (.inr (.inr (some (12, 0)))), none, some (.inl a2), none, none], [], m9) (.inl (some (.inl r.1)), r.2, 0, 0)
            refine e_steps 4 (s' := (63, [some (.inr (.inr (some (12, 0)))), none, some (.inl a2), some (.inl 0), some (.inl 0)], [], m9)) rfl ?_
            refine e_mask (L' := [some (.inr (.inr (some (12, 0)))), none, some (.inl a2), some (.inl 0), some (.inl 0)]) rfl ?_
            refine e_loopb (φ := fun s => (63, [some (.inr (.inr (some (12, 0)))), none, some (.inl a2), some (.inl s.1), some (.inl s.2)], [], m9)) (K := fun t => mm_E (d + 1) 174 (104, [some (.inr (.inr (some (12, 0)))), none, some (.inl a2), some (.inl t), none], [], m9) (.inl (some (.inl r.1)), r.2, 0, 0)) hres (fun v17 hres => ?_) (fun s ol10 hres hcl10 hxl10 => ?_)
            · show mm_E (d + 1) 174 (104, [some (.inr (.inr (some (12, 0)))), none, some (.inl a2), some (.inl v17), none], [], m9) (.inl (some (.inl r.1)), r.2, 0, 0)
              refine e_steps 2 (s' := (106, [some (.inr (.inr (some (12, 0)))), none, some (.inl a2), some (.inl v17), none], [.inl v17, .inr (.inr (some (12, 0)))], m9)) rfl ?_
              obtain ⟨m19, hv, hres⟩ := mm_b1_some hres
              refine e_call0 (pc := 109) (L := [some (.inr (.inr (some (12, 0)))), none, some (.inl a2), some (.inl v17), none]) (st := []) (m' := m19) (v := none) rfl (k_X12_readThreadPart d (by omega) v17 _ _ hv) ?_
              show mm_E (d + 1) 174 (109, [some (.inr (.inr (some (12, 0)))), none, some (.inl a2), some (.inl v17), none], [], m19) (.inl (some (.inl r.1)), r.2, 0, 0)
              refine e_steps 2 (s' := (113, [some (.inr (.inr (some (12, 0)))), none, some (.inl a2), some (.inl v17), none], [.inl (m19 12 0 29)], m19)) rfl ?_
              refine e_if (s1 := (123, [some (.inr (.inr (some (12, 0)))), none, some (.inl a2), some (.inl v17), none], [], m19)) (s2 := (116, [some (.inr (.inr (some (12, 0)))), none, some (.inl a2), some (.inl v17), none], [], m19)) rfl hres (fun hc hres => ?_) (fun hc hres => ?_)
              · obtain rfl := Option.some.inj hres
                exact e_mask (L' := [some (.inr (.inr (some (12, 0)))), none, some (.inl a2), none, none]) rfl (hxl8 _ rfl)
              · refine e_steps 2 (s' := (120, [some (.inr (.inr (some (12, 0)))), none, some (.inl a2), some (.inl v17), none], [.inl (m19 12 0 24)], m19)) rfl ?_
                refine e_if (s1 := (58, [some (.inr (.inr (some (12, 0)))), none, some (.inl a2), some (.inl v17), none], [], m19)) (s2 := (123, [some (.inr (.inr (some (12, 0)))), none, some (.inl a2), some (.inl v17), none], [], m19)) rfl hres (fun hc hres => ?_) (fun hc hres => ?_)
                · obtain rfl := Option.some.inj hres
                  exact e_mask (L' := [some (.inr (.inr (some (12, 0)))), none, some (.inl a2), none, none]) rfl (hcl8 _ rfl)
                · obtain rfl := Option.some.inj hres
                  exact e_mask (L' := [some (.inr (.inr (some (12, 0)))), none, some (.inl a2), none, none]) rfl (hxl8 _ rfl)
            · obtain ⟨v11, v12⟩ := s
              show mm_E (d + 1) 174 (63, [some (.inr (.inr (some (12, 0)))), none, some (.inl a2), some (.inl v11), some (.inl v12)], [], m9) (.inl (some (.inl r.1)), r.2, 0, 0)
              refine e_steps 5 (s' := (72, [some (.inr (.inr (some (12, 0)))), none, some (.inl a2), some (.inl v11), some (.inl v12)], [.inl (m9 67 0 8), .inl v12], m9)) rfl ?_
              refine e_if (s1 := (104, [some (.inr (.inr (some (12, 0)))), none, some (.inl a2), some (.inl v11), some (.inl v12)], [], m9)) (s2 := (75, [some (.inr (.inr (some (12, 0)))), none, some (.inl a2), some (.inl v11), some (.inl v12)], [], m9)) rfl hres (fun hc hres => ?_) (fun hc hres => ?_)
              · obtain rfl := Option.some.inj hres
                exact e_mask (L' := [some (.inr (.inr (some (12, 0)))), none, some (.inl a2), some (.inl v11), none]) rfl (hxl10 _ rfl)
              · refine e_steps 6 (s' := (86, [some (.inr (.inr (some (12, 0)))), none, some (.inl a2), some (.inl v11), some (.inl v12)], [.inl (192 + v12), .inr (.inr (some (69, 0))), .inl v11], m9)) rfl ?_
                refine e_gd (s1 := (87, [some (.inr (.inr (some (12, 0)))), none, some (.inl a2), some (.inl v11), some (.inl v12)], [.inl (m9 69 0 (192 + v12).toNatClampNeg), .inl v11], m9)) rfl hres (fun hc hres => ?_)
                refine e_steps 1 (s' := (88, [some (.inr (.inr (some (12, 0)))), none, some (.inl a2), some (.inl v11), some (.inl v12)], [.inl 3, .inl (m9 69 0 (192 + v12).toNatClampNeg), .inl v11], m9)) rfl ?_
                refine e_if (s1 := (95, [some (.inr (.inr (some (12, 0)))), none, some (.inl a2), some (.inl v11), some (.inl v12)], [.inl v11], m9)) (s2 := (91, [some (.inr (.inr (some (12, 0)))), none, some (.inl a2), some (.inl v11), some (.inl v12)], [.inl v11], m9)) rfl hres (fun hc hres => ?_) (fun hc hres => ?_)
                · refine e_steps 1 (s' := (96, [some (.inr (.inr (some (12, 0)))), none, some (.inl a2), some (.inl v11), some (.inl v12)], [.inl 0, .inl v11], m9)) rfl ?_
                  refine e_mask (L' := [some (.inr (.inr (some (12, 0)))), none, some (.inl a2), none, some (.inl v12)]) rfl ?_
                  refine e_steps 2 (s' := (98, [some (.inr (.inr (some (12, 0)))), none, some (.inl a2), some (.inl (v11 + 0)), some (.inl v12)], [], m9)) rfl ?_
                  refine e_let (fun (v13 : Int32) => (98, [some (.inr (.inr (some (12, 0)))), none, some (.inl a2), some (.inl v13), some (.inl v12)], [], m9)) hres (fun v13 hres => ?_)
                  refine e_steps 1 (s' := (101, [some (.inr (.inr (some (12, 0)))), none, some (.inl a2), some (.inl v13), some (.inl (v12 + 1))], [], m9)) rfl ?_
                  refine e_let (fun (v14 : Int32) => (101, [some (.inr (.inr (some (12, 0)))), none, some (.inl a2), some (.inl v13), some (.inl v14)], [], m9)) hres (fun v14 hres => ?_)
                  refine e_steps 1 (s' := (63, [some (.inr (.inr (some (12, 0)))), none, some (.inl a2), some (.inl v13), some (.inl v14)], [], m9)) rfl ?_
                  obtain rfl := Option.some.inj hres
                  exact e_mask (L' := [some (.inr (.inr (some (12, 0)))), none, some (.inl a2), some (.inl v13), some (.inl v14)]) rfl (hcl10 _ rfl)
                · refine e_steps 2 (s' := (96, [some (.inr (.inr (some (12, 0)))), none, some (.inl a2), some (.inl v11), some (.inl v12)], [.inl 1, .inl v11], m9)) rfl ?_
                  refine e_mask (L' := [some (.inr (.inr (some (12, 0)))), none, some (.inl a2), none, some (.inl v12)]) rfl ?_
                  refine e_steps 2 (s' := (98, [some (.inr (.inr (some (12, 0)))), none, some (.inl a2), some (.inl (v11 + 1)), some (.inl v12)], [], m9)) rfl ?_
                  refine e_let (fun (v15 : Int32) => (98, [some (.inr (.inr (some (12, 0)))), none, some (.inl a2), some (.inl v15), some (.inl v12)], [], m9)) hres (fun v15 hres => ?_)
                  refine e_steps 1 (s' := (101, [some (.inr (.inr (some (12, 0)))), none, some (.inl a2), some (.inl v15), some (.inl (v12 + 1))], [], m9)) rfl ?_
                  refine e_let (fun (v16 : Int32) => (101, [some (.inr (.inr (some (12, 0)))), none, some (.inl a2), some (.inl v15), some (.inl v16)], [], m9)) hres (fun v16 hres => ?_)
                  refine e_steps 1 (s' := (63, [some (.inr (.inr (some (12, 0)))), none, some (.inl a2), some (.inl v15), some (.inl v16)], [], m9)) rfl ?_
                  obtain rfl := Option.some.inj hres
                  exact e_mask (L' := [some (.inr (.inr (some (12, 0)))), none, some (.inl a2), some (.inl v15), some (.inl v16)]) rfl (hcl10 _ rfl)
        · refine e_mask (L' := [none, none, none, none, none]) rfl ?_
          refine e_steps 1 (s' := (49, [none, none, none, none, none], [.inl (-9)], m5)) rfl ?_
          obtain rfl := Option.some.inj hres
          exact e_ret rfl rfl
    · refine e_mask (L' := [some (.inr (.inr (some (12, 0)))), none, none, none, none]) rfl ?_
      refine e_steps 2 (s' := (19, [some (.inr (.inr (some (12, 0)))), none, none, none, none], [.inl 1, .inr (.inr (some (12, 0)))], m1)) rfl ?_
      obtain ⟨r34, m35, hv, hres⟩ := mm_b2_some hres
      refine e_call0 (pc := 22) (L := [some (.inr (.inr (some (12, 0)))), none, none, none, none]) (st := []) (m' := m35) (v := some (.inl r34)) rfl (k_X12_fail d (by omega) 1 _ _ hv) ?_
      show mm_E (d + 1) 174 (22, [some (.inr (.inr (some (12, 0)))), none, none, none, none], [.inl r34], m35) (.inl (some (.inl r.1)), r.2, 0, 0)
      obtain rfl := Option.some.inj hres
      exact e_ret rfl rfl
