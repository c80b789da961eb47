/-- GlassThreads.feed(IIIII)I -/
def f_X11_feed (a1 : Int32) (a2 : Int32) (a3 : Int32) (a4 : Int32) (a5 : Int32) (m : mm_M) : Option (Int32 × mm_M) :=
if (m 1 0 1) ≤ 380 then (mm_b1 (f_X9_append a1 m) fun m2 =>
mm_b1 (f_X9_append a2 m2) fun m4 =>
mm_b1 (f_X9_append a3 m4) fun m6 =>
mm_b1 (f_X9_append a4 m6) fun m8 =>
mm_b1 (f_X9_append a5 m8) fun m10 =>
some ((m10 1 0 1), m10))
else (some ((-1), m))
set_option maxHeartbeats 4000000 in
set_option maxRecDepth 100000 in
theorem k_X11_feed (d : Nat) (hd : 1 ≤ d) (a1 : Int32) (a2 : Int32) (a3 : Int32) (a4 : Int32) (a5 : Int32) (m : mm_M) (r : Int32 × mm_M) (hres : f_X11_feed a1 a2 a3 a4 a5 m = some r) : mm_X d 0 [.inr (.inr (some (0, 0))), .inl a1, .inl a2, .inl a3, .inl a4, .inl a5] m (.inl (some (.inl r.1)), r.2, 0, 0) := by
  unfold f_X11_feed at hres
  obtain ⟨d, rfl⟩ : ∃ e, d = e + 1 := ⟨d - 1, by omega⟩
  show mm_E (d + 1) 0 (0, [some (.inr (.inr (some (0, 0)))), some (.inl a1), some (.inl a2), some (.inl a3), some (.inl a4), some (.inl a5)], [], m) (.inl (some (.inl r.1)), r.2, 0, 0)
  refine e_steps 4 (s' := (10, [some (.inr (.inr (some (0, 0)))), some (.inl a1), some (.inl a2), some (.inl a3), some (.inl a4), some (.inl a5)], [.inl 380, .inl (m 1 0 1)], m)) rfl ?_
  refine e_if (s1 := (15, [some (.inr (.inr (some (0, 0)))), some (.inl a1), some (.inl a2), some (.inl a3), some (.inl a4), some (.inl a5)], [], m)) (s2 := (13, [some (.inr (.inr (some (0, 0)))), some (.inl a1), some (.inl a2), some (.inl a3), some (.inl a4), some (.inl a5)], [], m)) rfl hres (fun hc hres => ?_) (fun hc hres => ?_)
  · refine e_steps 3 (s' := (20, [some (.inr (.inr (some (0, 0)))), some (.inl a1), some (.inl a2), some (.inl a3), some (.inl a4), some (.inl a5)], [.inl a1, .inr (.inr (some (1, 0)))], m)) rfl ?_
    obtain ⟨m2, hv, hres⟩ := mm_b1_some hres
    refine e_call0 (pc := 23) (L := [some (.inr (.inr (some (0, 0)))), some (.inl a1), some (.inl a2), some (.inl a3), some (.inl a4), some (.inl a5)]) (st := []) (m' := m2) (v := none) rfl (k_X9_append d (by omega) a1 _ _ hv) ?_
    show mm_E (d + 1) 0 (23, [some (.inr (.inr (some (0, 0)))), some (.inl a1), some (.inl a2), some (.inl a3), some (.inl a4), some (.inl a5)], [], m2) (.inl (some (.inl r.1)), r.2, 0, 0)
    refine e_steps 3 (s' := (28, [some (.inr (.inr (some (0, 0)))), some (.inl a1), some (.inl a2), some (.inl a3), some (.inl a4), some (.inl a5)], [.inl a2, .inr (.inr (some (1, 0)))], m2)) rfl ?_
    obtain ⟨m4, hv, hres⟩ := mm_b1_some hres
    refine e_call0 (pc := 31) (L := [some (.inr (.inr (some (0, 0)))), some (.inl a1), some (.inl a2), some (.inl a3), some (.inl a4), some (.inl a5)]) (st := []) (m' := m4) (v := none) rfl (k_X9_append d (by omega) a2 _ _ hv) ?_
    show mm_E (d + 1) 0 (31, [some (.inr (.inr (some (0, 0)))), some (.inl a1), some (.inl a2), some (.inl a3), some (.inl a4), some (.inl a5)], [], m4) (.inl (some (.inl r.1)), r.2, 0, 0)
    refine e_steps 3 (s' := (36, [some (.inr (.inr (some (0, 0)))), some (.inl a1), some (.inl a2), some (.inl a3), some (.inl a4), some (.inl a5)], [.inl a3, .inr (.inr (some (1, 0)))], m4)) rfl ?_
    obtain ⟨m6, hv, hres⟩ := mm_b1_some hres
    refine e_call0 (pc := 39) (L := [some (.inr (.inr (some (0, 0)))), some (.inl a1), some (.inl a2), some (.inl a3), some (.inl a4), some (.inl a5)]) (st := []) (m' := m6) (v := none) rfl (k_X9_append d (by omega) a3 _ _ hv) ?_
    show mm_E (d + 1) 0 (39, [some (.inr (.inr (some (0, 0)))), some (.inl a1), some (.inl a2), some (.inl a3), some (.inl a4), some (.inl a5)], [], m6) (.inl (some (.inl r.1)), r.2, 0, 0)
    refine e_steps 3 (s' := (45, [some (.inr (.inr (some (0, 0)))), some (.inl a1), some (.inl a2), some (.inl a3), some (.inl a4), some (.inl a5)], [.inl a4, .inr (.inr (some (1, 0)))], m6)) rfl ?_
    obtain ⟨m8, hv, hres⟩ := mm_b1_some hres
    refine e_call0 (pc := 48) (L := [some (.inr (.inr (some (0, 0)))), some (.inl a1), some (.inl a2), some (.inl a3), some (.inl a4), some (.inl a5)]) (st := []) (m' := m8) (v := none) rfl (k_X9_append d (by omega) a4 _ _ hv) ?_
    show mm_E (d + 1) 0 (48, [some (.inr (.inr (some (0, 0)))), some (.inl a1), some (.inl a2), some (.inl a3), some (.inl a4), some (.inl a5)], [], m8) (.inl (some (.inl r.1)), r.2, 0, 0)
    refine e_steps 3 (s' := (54, [some (.inr (.inr (some (0, 0)))), some (.inl a1), some (.inl a2), some (.inl a3), some (.inl a4), some (.inl a5)], [.inl a5, .inr (.inr (some (1, 0)))], m8)) rfl ?_
    obtain ⟨m10, hv, hres⟩ := mm_b1_some hres
    refine e_call0 (pc := 57) (L := [some (.inr (.inr (some (0, 0)))), some (.inl a1), some (.inl a2), some (.inl a3), some (.inl a4), some (.inl a5)]) (st := []) (m' := m10) (v := none) rfl (k_X9_append d (by omega) a5 _ _ hv) ?_
    show mm_E (d + 1) 0 (57, [some (.inr (.inr (some (0, 0)))), some (.inl a1), some (.inl a2), some (.inl a3), some (.inl a4), some (.inl a5)], [], m10) (.inl (some (.inl r.1)), r.2, 0, 0)
    refine e_steps 3 (s' := (64, [some (.inr (.inr (some (0, 0)))), some (.inl a1), some (.inl a2), some (.inl a3), some (.inl a4), some (.inl a5)], [.inl (m10 1 0 1)], m10)) rfl ?_
    obtain rfl := Option.some.inj hres
    exact e_ret rfl rfl
  · refine e_steps 1 (s' := (14, [some (.inr (.inr (some (0, 0)))), some (.inl a1), some (.inl a2), some (.inl a3), some (.inl a4), some (.inl a5)], [.inl (-1)], m)) rfl ?_
    obtain rfl := Option.some.inj hres
    exact e_ret rfl rfl
/-- GlassThreads.needBytes(I)V -/
def f_X11_needBytes (a1 : Int32) (m : mm_M) : Option (Nat ⊕ (Unit)) :=
if a1 < 0 then (some (.inl 0))
else (if a1 ≤ (m 1 0 1) then (some (.inr ()))
else (some (.inl 0)))
set_option maxHeartbeats 4000000 in
set_option maxRecDepth 100000 in
theorem k_X11_needBytes (d : Nat) (hd : 0 ≤ d) (a1 : Int32) (m : mm_M) (r : Nat ⊕ (Unit)) (hres : f_X11_needBytes a1 m = some r) : mm_X d 40 [.inr (.inr (some (0, 0))), .inl a1] m (mm_th m (fun (t : Unit) => (.inl none, m, 0, 0)) r) := by
  unfold f_X11_needBytes at hres
  show mm_E d 40 (0, [some (.inr (.inr (some (0, 0)))), some (.inl a1)], [], m) (mm_th m (fun (t : Unit) => (.inl none, m, 0, 0)) r)
  refine e_steps 1 (s' := (1, [some (.inr (.inr (some (0, 0)))), some (.inl a1)], [.inl a1], m)) rfl ?_
  refine e_if (s1 := (15, [some (.inr (.inr (some (0, 0)))), some (.inl a1)], [], m)) (s2 := (4, [some (.inr (.inr (some (0, 0)))), some (.inl a1)], [], m)) rfl hres (fun hc hres => ?_) (fun hc hres => ?_)
  · refine e_mask (L' := [none, none]) rfl ?_
    obtain rfl := Option.some.inj hres
    exact e_ret rfl rfl
  · refine e_steps 4 (s' := (12, [some (.inr (.inr (some (0, 0)))), some (.inl a1)], [.inl (m 1 0 1), .inl a1], m)) rfl ?_
    refine e_if (s1 := (26, [some (.inr (.inr (some (0, 0)))), some (.inl a1)], [], m)) (s2 := (15, [some (.inr (.inr (some (0, 0)))), some (.inl a1)], [], m)) rfl hres (fun hc hres => ?_) (fun hc hres => ?_)
    · obtain rfl := Option.some.inj hres
      exact e_ret rfl rfl
    · refine e_mask (L' := [none, none]) rfl ?_
      obtain rfl := Option.some.inj hres
      exact e_ret rfl rfl
/-- GlassThreads.thread(II)I -/
def f_X11_thread (a1 : Int32) (a2 : Int32) (m : mm_M) : Option (Nat ⊕ (Int32 × mm_M)) :=
(mm_bx (f_X11_needBytes a1 m) fun _ =>
mm_b1 (f_X9_open a1 m) fun m3 =>
mm_let (mm_w m3 0 0 5 (-1)) fun m4 =>
if 8 ≤ (m4 0 0 2) then (some (.inr ((-9), m4)))
else (if a2 < 0 then (some (.inr ((-9), m4)))
else (if a2 ≤ 99 then (if mm_in (m4 0 0 2) 8 then (
mm_let (0 + (m4 0 0 2).toNatClampNeg) fun i5 =>
mm_b2 (f_X8_readFrom i5 m4) fun r6 m7 =>
if r6 ≠ 0 then (mm_let (mm_w m7 5 i5 5 a2) fun m8 =>
mm_let (mm_w m8 0 0 2 ((m8 0 0 2) + 1)) fun m9 =>
some (.inr (((m9 0 0 2) - 1), m9)))
else (mm_let (mm_w m7 0 0 5 (m7 1 0 10)) fun m10 =>
some (.inr (((-1) - (m10 1 0 9)), m10)))) else none)
else (some (.inr ((-9), m4))))))
set_option maxHeartbeats 4000000 in
set_option maxRecDepth 100000 in
theorem k_X11_thread (d : Nat) (hd : 6 ≤ d) (a1 : Int32) (a2 : Int32) (m : mm_M) (r : Nat ⊕ (Int32 × mm_M)) (hres : f_X11_thread a1 a2 m = some r) : mm_X d 1 [.inr (.inr (some (0, 0))), .inl a1, .inl a2] m (mm_th m (fun (t : Int32 × mm_M) => (.inl (some (.inl t.1)), t.2, 0, 0)) r) := by
  unfold f_X11_thread at hres
  obtain ⟨d, rfl⟩ : ∃ e, d = e + 1 := ⟨d - 1, by omega⟩
  show mm_E (d + 1) 1 (0, [some (.inr (.inr (some (0, 0)))), some (.inl a1), some (.inl a2), none], [], m) (mm_th m (fun (t : Int32 × mm_M) => (.inl (some (.inl t.1)), t.2, 0, 0)) r)
  refine e_steps 2 (s' := (2, [some (.inr (.inr (some (0, 0)))), some (.inl a1), some (.inl a2), none], [.inl a1, .inr (.inr (some (0, 0)))], m)) rfl ?_
  rcases mm_bx_some hres with ⟨e9, hv, rfl⟩ | ⟨t, hv, hres⟩
  · exact e_callx (pc := 5) (L := [some (.inr (.inr (some (0, 0)))), some (.inl a1), some (.inl a2), none]) (st := []) rfl rfl (k_X11_needBytes d (by omega) a1 _ _ hv)
  refine e_call0 (pc := 5) (L := [some (.inr (.inr (some (0, 0)))), some (.inl a1), some (.inl a2), none]) (st := []) (m' := m) (v := none) rfl (k_X11_needBytes d (by omega) a1 _ _ hv) ?_
  show mm_E (d + 1) 1 (5, [some (.inr (.inr (some (0, 0)))), some (.inl a1), some (.inl a2), none], [], m) (mm_th m (fun (t : Int32 × mm_M) => (.inl (some (.inl t.1)), t.2, 0, 0)) r)
  refine e_steps 3 (s' := (10, [some (.inr (.inr (some (0, 0)))), some (.inl a1), some (.inl a2), none], [.inl a1, .inr (.inr (some (1, 0)))], m)) rfl ?_
  obtain ⟨m3, hv, hres⟩ := mm_b1_some hres
  refine e_call0 (pc := 13) (L := [some (.inr (.inr (some (0, 0)))), some (.inl a1), some (.inl a2), none]) (st := []) (m' := m3) (v := none) rfl (k_X9_open d (by omega) a1 _ _ hv) ?_
  show mm_E (d + 1) 1 (13, [some (.inr (.inr (some (0, 0)))), some (.inl a1), some (.inl a2), none], [], m3) (mm_th m (fun (t : Int32 × mm_M) => (.inl (some (.inl t.1)), t.2, 0, 0)) r)
  refine e_steps 3 (s' := (18, [some (.inr (.inr (some (0, 0)))), some (.inl a1), some (.inl a2), none], [], (mm_w m3 0 0 5 (-1)))) rfl ?_
  refine e_let (fun (m4 : mm_M) => (18, [some (.inr (.inr (some (0, 0)))), some (.inl a1), some (.inl a2), none], [], m4)) hres (fun m4 hres => ?_)
  refine e_steps 3 (s' := (24, [some (.inr (.inr (some (0, 0)))), some (.inl a1), some (.inl a2), none], [.inl 8, .inl (m4 0 0 2)], m4)) rfl ?_
  refine e_if (s1 := (37, [some (.inr (.inr (some (0, 0)))), some (.inl a1), some (.inl a2), none], [], m4)) (s2 := (27, [some (.inr (.inr (some (0, 0)))), some (.inl a1), some (.inl a2), none], [], m4)) rfl hres (fun hc hres => ?_) (fun hc hres => ?_)
  · refine e_mask (L' := [none, none, none, none]) rfl ?_
    refine e_steps 1 (s' := (39, [none, none, none, none], [.inl (-9)], m4)) rfl ?_
    obtain rfl := Option.some.inj hres
    exact e_ret rfl rfl
  · refine e_steps 1 (s' := (28, [some (.inr (.inr (some (0, 0)))), some (.inl a1), some (.inl a2), none], [.inl a2], m4)) rfl ?_
    refine e_if (s1 := (37, [some (.inr (.inr (some (0, 0)))), some (.inl a1), some (.inl a2), none], [], m4)) (s2 := (31, [some (.inr (.inr (some (0, 0)))), some (.inl a1), some (.inl a2), none], [], m4)) rfl hres (fun hc hres => ?_) (fun hc hres => ?_)
    · refine e_mask (L' := [none, none, none, none]) rfl ?_
      refine e_steps 1 (s' := (39, [none, none, none, none], [.inl (-9)], m4)) rfl ?_
      obtain rfl := Option.some.inj hres
      exact e_ret rfl rfl
    · refine e_steps 2 (s' := (34, [some (.inr (.inr (some (0, 0)))), some (.inl a1), some (.inl a2), none], [.inl 99, .inl a2], m4)) rfl ?_
      refine e_if (s1 := (40, [some (.inr (.inr (some (0, 0)))), some (.inl a1), some (.inl a2), none], [], m4)) (s2 := (37, [some (.inr (.inr (some (0, 0)))), some (.inl a1), some (.inl a2), none], [], m4)) rfl hres (fun hc hres => ?_) (fun hc hres => ?_)
      · refine e_steps 4 (s' := (48, [some (.inr (.inr (some (0, 0)))), some (.inl a1), some (.inl a2), none], [.inl (m4 0 0 2), .inr (.inr (some (13, 0)))], m4)) rfl ?_
        refine e_gd (s1 := (49, [some (.inr (.inr (some (0, 0)))), some (.inl a1), some (.inl a2), none], [.inr (.inr (some (5, (0 + (m4 0 0 2).toNatClampNeg))))], m4)) rfl hres (fun hc hres => ?_)
        refine e_let (fun (i5 : Nat) => (49, [some (.inr (.inr (some (0, 0)))), some (.inl a1), some (.inl a2), none], [.inr (.inr (some (5, i5)))], m4)) hres (fun i5 hres => ?_)
        refine e_steps 4 (s' := (55, [some (.inr (.inr (some (0, 0)))), some (.inl a1), some (.inl a2), some (.inr (.inr (some (5, i5))))], [.inr (.inr (some (1, 0))), .inr (.inr (some (5, i5)))], m4)) rfl ?_
        obtain ⟨r6, m7, hv, hres⟩ := mm_b2_some hres
        refine e_call0 (pc := 58) (L := [some (.inr (.inr (some (0, 0)))), some (.inl a1), some (.inl a2), some (.inr (.inr (some (5, i5))))]) (st := []) (m' := m7) (v := some (.inl r6)) rfl (k_X8_readFrom d (by omega) i5 _ _ hv) ?_
        show mm_E (d + 1) 1 (58, [some (.inr (.inr (some (0, 0)))), some (.inl a1), some (.inl a2), some (.inr (.inr (some (5, i5))))], [.inl r6], m7) (mm_th m (fun (t : Int32 × mm_M) => (.inl (some (.inl t.1)), t.2, 0, 0)) r)
        refine e_if (s1 := (82, [some (.inr (.inr (some (0, 0)))), some (.inl a1), some (.inl a2), some (.inr (.inr (some (5, i5))))], [], m7)) (s2 := (61, [some (.inr (.inr (some (0, 0)))), some (.inl a1), some (.inl a2), some (.inr (.inr (some (5, i5))))], [], m7)) rfl hres (fun hc hres => ?_) (fun hc hres => ?_)
        · refine e_steps 3 (s' := (87, [some (.inr (.inr (some (0, 0)))), some (.inl a1), some (.inl a2), some (.inr (.inr (some (5, i5))))], [], (mm_w m7 5 i5 5 a2))) rfl ?_
          refine e_let (fun (m8 : mm_M) => (87, [some (.inr (.inr (some (0, 0)))), some (.inl a1), some (.inl a2), some (.inr (.inr (some (5, i5))))], [], m8)) hres (fun m8 hres => ?_)
          refine e_steps 6 (s' := (97, [some (.inr (.inr (some (0, 0)))), some (.inl a1), some (.inl a2), some (.inr (.inr (some (5, i5))))], [], (mm_w m8 0 0 2 ((m8 0 0 2) + 1)))) rfl ?_
          refine e_let (fun (m9 : mm_M) => (97, [some (.inr (.inr (some (0, 0)))), some (.inl a1), some (.inl a2), some (.inr (.inr (some (5, i5))))], [], m9)) hres (fun m9 hres => ?_)
          refine e_steps 4 (s' := (103, [some (.inr (.inr (some (0, 0)))), some (.inl a1), some (.inl a2), some (.inr (.inr (some (5, i5))))], [.inl ((m9 0 0 2) - 1)], m9)) rfl ?_
          obtain rfl := Option.some.inj hres
          exact e_ret rfl rfl
        · refine e_steps 5 (s' := (72, [some (.inr (.inr (some (0, 0)))), some (.inl a1), some (.inl a2), some (.inr (.inr (some (5, i5))))], [], (mm_w m7 0 0 5 (m7 1 0 10)))) rfl ?_
          refine e_let (fun (m10 : mm_M) => (72, [some (.inr (.inr (some (0, 0)))), some (.inl a1), some (.inl a2), some (.inr (.inr (some (5, i5))))], [], m10)) hres (fun m10 hres => ?_)
          refine e_steps 5 (s' := (81, [some (.inr (.inr (some (0, 0)))), some (.inl a1), some (.inl a2), some (.inr (.inr (some (5, i5))))], [.inl ((-1) - (m10 1 0 9))], m10)) rfl ?_
          obtain rfl := Option.some.inj hres
          exact e_ret rfl rfl
      · refine e_mask (L' := [none, none, none, none]) rfl ?_
        refine e_steps 1 (s' := (39, [none, none, none, none], [.inl (-9)], m4)) rfl ?_
        obtain rfl := Option.some.inj hres
        exact e_ret rfl rfl
/-- GlassThreads.law(I)I -/
def f_X11_law (a1 : Int32) (m : mm_M) : Option (Nat ⊕ (Int32 × mm_M)) :=
(mm_bx (f_X11_needBytes a1 m) fun _ =>
mm_b1 (f_X9_open a1 m) fun m3 =>
mm_let (mm_w m3 0 0 5 (-1)) fun m4 =>
if (m4 0 0 4) = -1 then (none) else (mm_let (m4 0 0 4).toNatClampNeg fun i5 =>
mm_b2 (f_X3_readFrom i5 m4) fun r6 m7 =>
if r6 ≠ 0 then (if (m7 0 0 3) = -1 then (none) else (mm_let (m7 0 0 3).toNatClampNeg fun i8 =>
if (m7 0 0 4) = -1 then (none) else (mm_let (m7 0 0 4).toNatClampNeg fun i9 =>
mm_let (mm_w m7 0 0 3 (Int32.ofNat i9)) fun m10 =>
mm_let (mm_w m10 0 0 4 (Int32.ofNat i8)) fun m11 =>
some (.inr (0, m11)))))
else (mm_let (mm_w m7 0 0 5 (m7 1 0 10)) fun m12 =>
some (.inr ((m12 1 0 9), m12)))))
set_option maxHeartbeats 4000000 in
set_option maxRecDepth 100000 in
theorem k_X11_law (d : Nat) (hd : 197 ≤ d) (a1 : Int32) (m : mm_M) (r : Nat ⊕ (Int32 × mm_M)) (hres : f_X11_law a1 m = some r) : mm_X d 2 [.inr (.inr (some (0, 0))), .inl a1] m (mm_th m (fun (t : Int32 × mm_M) => (.inl (some (.inl t.1)), t.2, 0, 0)) r) := by
  unfold f_X11_law at hres
  obtain ⟨d, rfl⟩ : ∃ e, d = e + 1 := ⟨d - 1, by omega⟩
  show mm_E (d + 1) 2 (0, [some (.inr (.inr (some (0, 0)))), some (.inl a1), none], [], m) (mm_th m (fun (t : Int32 × mm_M) => (.inl (some (.inl t.1)), t.2, 0, 0)) r)
  refine e_steps 2 (s' := (2, [some (.inr (.inr (some (0, 0)))), some (.inl a1), none], [.inl a1, .inr (.inr (some (0, 0)))], m)) rfl ?_
  rcases mm_bx_some hres with ⟨e9, hv, rfl⟩ | ⟨t, hv, hres⟩
  · exact e_callx (pc := 5) (L := [some (.inr (.inr (some (0, 0)))), some (.inl a1), none]) (st := []) rfl rfl (k_X11_needBytes d (by omega) a1 _ _ hv)
  refine e_call0 (pc := 5) (L := [some (.inr (.inr (some (0, 0)))), some (.inl a1), none]) (st := []) (m' := m) (v := none) rfl (k_X11_needBytes d (by omega) a1 _ _ hv) ?_
  show mm_E (d + 1) 2 (5, [some (.inr (.inr (some (0, 0)))), some (.inl a1), none], [], m) (mm_th m (fun (t : Int32 × mm_M) => (.inl (some (.inl t.1)), t.2, 0, 0)) r)
  refine e_steps 3 (s' := (10, [some (.inr (.inr (some (0, 0)))), some (.inl a1), none], [.inl a1, .inr (.inr (some (1, 0)))], m)) rfl ?_
  obtain ⟨m3, hv, hres⟩ := mm_b1_some hres
  refine e_call0 (pc := 13) (L := [some (.inr (.inr (some (0, 0)))), some (.inl a1), none]) (st := []) (m' := m3) (v := none) rfl (k_X9_open d (by omega) a1 _ _ hv) ?_
  show mm_E (d + 1) 2 (13, [some (.inr (.inr (some (0, 0)))), some (.inl a1), none], [], m3) (mm_th m (fun (t : Int32 × mm_M) => (.inl (some (.inl t.1)), t.2, 0, 0)) r)
  refine e_steps 3 (s' := (18, [some (.inr (.inr (some (0, 0)))), some (.inl a1), none], [], (mm_w m3 0 0 5 (-1)))) rfl ?_
  refine e_let (fun (m4 : mm_M) => (18, [some (.inr (.inr (some (0, 0)))), some (.inl a1), none], [], m4)) hres (fun m4 hres => ?_)
  refine e_steps 1 (s' := (19, [some (.inr (.inr (some (0, 0)))), some (.inl a1), none], [.inr (.inr (some (0, 0)))], m4)) rfl ?_
  refine e_if (s1 := (22, [some (.inr (.inr (some (0, 0)))), some (.inl a1), none], [.inr (.inr none)], m4)) (s2 := (22, [some (.inr (.inr (some (0, 0)))), some (.inl a1), none], [.inr (.inr (some (2, (m4 0 0 4).toNatClampNeg)))], m4)) rfl hres (fun hc hres => ?_) (fun hc hres => ?_)
  · refine e_steps 2 (s' := (26, [some (.inr (.inr (some (0, 0)))), some (.inl a1), none], [.inr (.inr (some (1, 0))), .inr (.inr none)], m4)) rfl ?_
    cases hres
  · refine e_let (fun (i5 : Nat) => (22, [some (.inr (.inr (some (0, 0)))), some (.inl a1), none], [.inr (.inr (some (2, i5)))], m4)) hres (fun i5 hres => ?_)
    refine e_steps 2 (s' := (26, [some (.inr (.inr (some (0, 0)))), some (.inl a1), none], [.inr (.inr (some (1, 0))), .inr (.inr (some (2, i5)))], m4)) rfl ?_
    obtain ⟨r6, m7, hv, hres⟩ := mm_b2_some hres
    refine e_call0 (pc := 29) (L := [some (.inr (.inr (some (0, 0)))), some (.inl a1), none]) (st := []) (m' := m7) (v := some (.inl r6)) rfl (k_X3_readFrom d (by omega) i5 _ _ hv) ?_
    show mm_E (d + 1) 2 (29, [some (.inr (.inr (some (0, 0)))), some (.inl a1), none], [.inl r6], m7) (mm_th m (fun (t : Int32 × mm_M) => (.inl (some (.inl t.1)), t.2, 0, 0)) r)
    refine e_if (s1 := (51, [some (.inr (.inr (some (0, 0)))), some (.inl a1), none], [], m7)) (s2 := (32, [some (.inr (.inr (some (0, 0)))), some (.inl a1), none], [], m7)) rfl hres (fun hc hres => ?_) (fun hc hres => ?_)
    · refine e_steps 1 (s' := (52, [some (.inr (.inr (some (0, 0)))), some (.inl a1), none], [.inr (.inr (some (0, 0)))], m7)) rfl ?_
      refine e_if (s1 := (55, [some (.inr (.inr (some (0, 0)))), some (.inl a1), none], [.inr (.inr none)], m7)) (s2 := (55, [some (.inr (.inr (some (0, 0)))), some (.inl a1), none], [.inr (.inr (some (2, (m7 0 0 3).toNatClampNeg)))], m7)) rfl hres (fun hc hres => ?_) (fun hc hres => ?_)
      · cases hres
      · refine e_let (fun (i8 : Nat) => (55, [some (.inr (.inr (some (0, 0)))), some (.inl a1), none], [.inr (.inr (some (2, i8)))], m7)) hres (fun i8 hres => ?_)
        refine e_steps 3 (s' := (58, [some (.inr (.inr (some (0, 0)))), some (.inl a1), some (.inr (.inr (some (2, i8))))], [.inr (.inr (some (0, 0))), .inr (.inr (some (0, 0)))], m7)) rfl ?_
        refine e_if (s1 := (61, [some (.inr (.inr (some (0, 0)))), some (.inl a1), some (.inr (.inr (some (2, i8))))], [.inr (.inr none), .inr (.inr (some (0, 0)))], m7)) (s2 := (61, [some (.inr (.inr (some (0, 0)))), some (.inl a1), some (.inr (.inr (some (2, i8))))], [.inr (.inr (some (2, (m7 0 0 4).toNatClampNeg))), .inr (.inr (some (0, 0)))], m7)) rfl hres (fun hc hres => ?_) (fun hc hres => ?_)
        · cases hres
        · refine e_let (fun (i9 : Nat) => (61, [some (.inr (.inr (some (0, 0)))), some (.inl a1), some (.inr (.inr (some (2, i8))))], [.inr (.inr (some (2, i9))), .inr (.inr (some (0, 0)))], m7)) hres (fun i9 hres => ?_)
          refine e_steps 1 (s' := (64, [some (.inr (.inr (some (0, 0)))), some (.inl a1), some (.inr (.inr (some (2, i8))))], [], (mm_w m7 0 0 3 (Int32.ofNat i9)))) rfl ?_
          refine e_let (fun (m10 : mm_M) => (64, [some (.inr (.inr (some (0, 0)))), some (.inl a1), some (.inr (.inr (some (2, i8))))], [], m10)) hres (fun m10 hres => ?_)
          refine e_steps 3 (s' := (69, [some (.inr (.inr (some (0, 0)))), some (.inl a1), some (.inr (.inr (some (2, i8))))], [], (mm_w m10 0 0 4 (Int32.ofNat i8)))) rfl ?_
          refine e_let (fun (m11 : mm_M) => (69, [some (.inr (.inr (some (0, 0)))), some (.inl a1), some (.inr (.inr (some (2, i8))))], [], m11)) hres (fun m11 hres => ?_)
          refine e_steps 1 (s' := (70, [some (.inr (.inr (some (0, 0)))), some (.inl a1), some (.inr (.inr (some (2, i8))))], [.inl 0], m11)) rfl ?_
          obtain rfl := Option.some.inj hres
          exact e_ret rfl rfl
    · refine e_steps 5 (s' := (43, [some (.inr (.inr (some (0, 0)))), some (.inl a1), none], [], (mm_w m7 0 0 5 (m7 1 0 10)))) rfl ?_
      refine e_let (fun (m12 : mm_M) => (43, [some (.inr (.inr (some (0, 0)))), some (.inl a1), none], [], m12)) hres (fun m12 hres => ?_)
      refine e_steps 3 (s' := (50, [some (.inr (.inr (some (0, 0)))), some (.inl a1), none], [.inl (m12 1 0 9)], m12)) rfl ?_
      obtain rfl := Option.some.inj hres
      exact e_ret rfl rfl
/-- GlassThreads.fault()I -/
def f_X11_fault  (m : mm_M) : Option (Int32) :=
some (m 0 0 5)
set_option maxHeartbeats 4000000 in
set_option maxRecDepth 100000 in
theorem k_X11_fault (d : Nat) (hd : 0 ≤ d)  (m : mm_M) (r : Int32) (hres : f_X11_fault  m = some r) : mm_X d 3 [.inr (.inr (some (0, 0)))] m (.inl (some (.inl r)), m, 0, 0) := by
  unfold f_X11_fault at hres
  show mm_E d 3 (0, [some (.inr (.inr (some (0, 0))))], [], m) (.inl (some (.inl r)), m, 0, 0)
  refine e_steps 2 (s' := (4, [some (.inr (.inr (some (0, 0))))], [.inl (m 0 0 5)], m)) rfl ?_
  obtain rfl := Option.some.inj hres
  exact e_ret rfl rfl
/-- GlassThreads.strandOf(I)LGlassThreads$Strand; -/
def f_X11_strandOf (a1 : Int32) (m : mm_M) : Option (Nat ⊕ (Nat)) :=
if a1 < 0 then (some (.inl 1))
else (if a1 < (m 0 0 2) then (if mm_in a1 8 then (
mm_let (0 + a1.toNatClampNeg) fun i1 =>
some (.inr i1)) else none)
else (some (.inl 1)))
set_option maxHeartbeats 4000000 in
set_option maxRecDepth 100000 in
theorem k_X11_strandOf (d : Nat) (hd : 0 ≤ d) (a1 : Int32) (m : mm_M) (r : Nat ⊕ (Nat)) (hres : f_X11_strandOf a1 m = some r) : mm_X d 38 [.inr (.inr (some (0, 0))), .inl a1] m (mm_th m (fun (t : Nat) => (.inl (some (.inr (.inr (some (5, t))))), m, 0, 0)) r) := by
  unfold f_X11_strandOf at hres
  show mm_E d 38 (0, [some (.inr (.inr (some (0, 0)))), some (.inl a1)], [], m) (mm_th m (fun (t : Nat) => (.inl (some (.inr (.inr (some (5, t))))), m, 0, 0)) r)
  refine e_steps 1 (s' := (1, [some (.inr (.inr (some (0, 0)))), some (.inl a1)], [.inl a1], m)) rfl ?_
  refine e_if (s1 := (12, [some (.inr (.inr (some (0, 0)))), some (.inl a1)], [], m)) (s2 := (4, [some (.inr (.inr (some (0, 0)))), some (.inl a1)], [], m)) rfl hres (fun hc hres => ?_) (fun hc hres => ?_)
  · refine e_mask (L' := [none, none]) rfl ?_
    obtain rfl := Option.some.inj hres
    exact e_ret rfl rfl
  · refine e_steps 3 (s' := (9, [some (.inr (.inr (some (0, 0)))), some (.inl a1)], [.inl (m 0 0 2), .inl a1], m)) rfl ?_
    refine e_if (s1 := (23, [some (.inr (.inr (some (0, 0)))), some (.inl a1)], [], m)) (s2 := (12, [some (.inr (.inr (some (0, 0)))), some (.inl a1)], [], m)) rfl hres (fun hc hres => ?_) (fun hc hres => ?_)
    · refine e_steps 3 (s' := (28, [some (.inr (.inr (some (0, 0)))), some (.inl a1)], [.inl a1, .inr (.inr (some (13, 0)))], m)) rfl ?_
      refine e_gd (s1 := (29, [some (.inr (.inr (some (0, 0)))), some (.inl a1)], [.inr (.inr (some (5, (0 + a1.toNatClampNeg))))], m)) rfl hres (fun hc hres => ?_)
      refine e_let (fun (i1 : Nat) => (29, [some (.inr (.inr (some (0, 0)))), some (.inl a1)], [.inr (.inr (some (5, i1)))], m)) hres (fun i1 hres => ?_)
      obtain rfl := Option.some.inj hres
      exact e_ret rfl rfl
    · refine e_mask (L' := [none, none]) rfl ?_
      obtain rfl := Option.some.inj hres
      exact e_ret rfl rfl
/-- GlassThreads.needPart(LGlassThreads$Strand;I)V -/
def f_X11_needPart (i0 : Nat) (a1 : Int32) (m : mm_M) : Option (Nat ⊕ (Unit)) :=
if a1 < 0 then (some (.inl 1))
else (if a1 < (m 5 i0 4) then (some (.inr ()))
else (some (.inl 1)))
set_option maxHeartbeats 4000000 in
set_option maxRecDepth 100000 in
theorem k_X11_needPart (d : Nat) (hd : 0 ≤ d) (i0 : Nat) (a1 : Int32) (m : mm_M) (r : Nat ⊕ (Unit)) (hres : f_X11_needPart i0 a1 m = some r) : mm_X d 43 [.inr (.inr (some (5, i0))), .inl a1] m (mm_th m (fun (t : Unit) => (.inl none, m, 0, 0)) r) := by
  unfold f_X11_needPart at hres
  show mm_E d 43 (0, [some (.inr (.inr (some (5, i0)))), some (.inl a1)], [], m) (mm_th m (fun (t : Unit) => (.inl none, m, 0, 0)) r)
  refine e_steps 1 (s' := (1, [some (.inr (.inr (some (5, i0)))), some (.inl a1)], [.inl a1], m)) rfl ?_
  refine e_if (s1 := (12, [some (.inr (.inr (some (5, i0)))), some (.inl a1)], [], m)) (s2 := (4, [some (.inr (.inr (some (5, i0)))), some (.inl a1)], [], m)) rfl hres (fun hc hres => ?_) (fun hc hres => ?_)
  · refine e_mask (L' := [none, none]) rfl ?_
    obtain rfl := Option.some.inj hres
    exact e_ret rfl rfl
  · refine e_steps 3 (s' := (9, [some (.inr (.inr (some (5, i0)))), some (.inl a1)], [.inl (m 5 i0 4), .inl a1], m)) rfl ?_
    refine e_if (s1 := (23, [some (.inr (.inr (some (5, i0)))), some (.inl a1)], [], m)) (s2 := (12, [some (.inr (.inr (some (5, i0)))), some (.inl a1)], [], m)) rfl hres (fun hc hres => ?_) (fun hc hres => ?_)
    · obtain rfl := Option.some.inj hres
      exact e_ret rfl rfl
    · refine e_mask (L' := [none, none]) rfl ?_
      obtain rfl := Option.some.inj hres
      exact e_ret rfl rfl
/-- GlassThreads.part(III)I -/
def f_X11_part (a1 : Int32) (a2 : Int32) (a3 : Int32) (m : mm_M) : Option (Nat ⊕ (Int32)) :=
(mm_bx (f_X11_strandOf a1 m) fun r1 =>
mm_let (((mm_bx (f_X11_needPart r1 a2 m) fun _ =>
if a3 = 0 then (if mm_in a2 24 then (
some (.inr (m 37 r1 a2.toNatClampNeg))) else none)
else if a3 = 1 then (if mm_in a2 24 then (
some (.inr (m 38 r1 a2.toNatClampNeg))) else none)
else if a3 = 2 then (if mm_in a2 24 then (
some (.inr (m 39 r1 a2.toNatClampNeg))) else none)
else (some (.inl 1))) : Option (Nat ⊕ (Int32)))) fun k2 =>
if a2 ≠ (-1) then (k2)
else (if a3 ≠ 0 then (k2)
else (some (.inr (m 5 r1 4)))))
set_option maxHeartbeats 4000000 in
set_option maxRecDepth 100000 in
theorem k_X11_part (d : Nat) (hd : 1 ≤ d) (a1 : Int32) (a2 : Int32) (a3 : Int32) (m : mm_M) (r : Nat ⊕ (Int32)) (hres : f_X11_part a1 a2 a3 m = some r) : mm_X d 4 [.inr (.inr (some (0, 0))), .inl a1, .inl a2, .inl a3] m (mm_th m (fun (t : Int32) => (.inl (some (.inl t)), m, 0, 0)) r) := by
  unfold f_X11_part at hres
  obtain ⟨d, rfl⟩ : ∃ e, d = e + 1 := ⟨d - 1, by omega⟩
  show mm_E (d + 1) 4 (0, [some (.inr (.inr (some (0, 0)))), some (.inl a1), some (.inl a2), some (.inl a3), none], [], m) (mm_th m (fun (t : Int32) => (.inl (some (.inl t)), m, 0, 0)) r)
  refine e_steps 2 (s' := (2, [some (.inr (.inr (some (0, 0)))), some (.inl a1), some (.inl a2), some (.inl a3), none], [.inl a1, .inr (.inr (some (0, 0)))], m)) rfl ?_
  rcases mm_bx_some hres with ⟨e9, hv, rfl⟩ | ⟨r1, hv, hres⟩
  · exact e_callx (pc := 5) (L := [some (.inr (.inr (some (0, 0)))), some (.inl a1), some (.inl a2), some (.inl a3), none]) (st := []) rfl rfl (k_X11_strandOf d (by omega) a1 _ _ hv)
  refine e_call0 (pc := 5) (L := [some (.inr (.inr (some (0, 0)))), some (.inl a1), some (.inl a2), some (.inl a3), none]) (st := []) (m' := m) (v := some (.inr (.inr (some (5, r1))))) rfl (k_X11_strandOf d (by omega) a1 _ _ hv) ?_
  show mm_E (d + 1) 4 (5, [some (.inr (.inr (some (0, 0)))), some (.inl a1), some (.inl a2), some (.inl a3), none], [.inr (.inr (some (5, r1)))], m) (mm_th m (fun (t : Int32) => (.inl (some (.inl t)), m, 0, 0)) r)
  refine e_steps 3 (s' := (9, [some (.inr (.inr (some (0, 0)))), some (.inl a1), some (.inl a2), some (.inl a3), some (.inr (.inr (some (5, r1))))], [.inl (-1), .inl a2], m)) rfl ?_
  refine e_join (fun k2 => k2 = some r → mm_E (d + 1) 4 (22, [none, none, some (.inl a2), some (.inl a3), some (.inr (.inr (some (5, r1))))], [], m) (mm_th m (fun (t : Int32) => (.inl (some (.inl t)), m, 0, 0)) r)) hres (fun  hres => ?_) (fun k2 hk2 hres => ?_)
  · refine e_steps 2 (s' := (25, [none, none, some (.inl a2), some (.inl a3), some (.inr (.inr (some (5, r1))))], [.inl a2, .inr (.inr (some (5, r1)))], m)) rfl ?_
    rcases mm_bx_some hres with ⟨e9, hv, rfl⟩ | ⟨t, hv, hres⟩
    · exact e_callx (pc := 28) (L := [none, none, some (.inl a2), some (.inl a3), some (.inr (.inr (some (5, r1))))]) (st := []) rfl rfl (k_X11_needPart d (by omega) r1 a2 _ _ hv)
    refine e_call0 (pc := 28) (L := [none, none, some (.inl a2), some (.inl a3), some (.inr (.inr (some (5, r1))))]) (st := []) (m' := m) (v := none) rfl (k_X11_needPart d (by omega) r1 a2 _ _ hv) ?_
    show mm_E (d + 1) 4 (28, [none, none, some (.inl a2), some (.inl a3), some (.inr (.inr (some (5, r1))))], [], m) (mm_th m (fun (t : Int32) => (.inl (some (.inl t)), m, 0, 0)) r)
    refine e_steps 1 (s' := (29, [none, none, some (.inl a2), some (.inl a3), some (.inr (.inr (some (5, r1))))], [.inl a3], m)) rfl ?_
    refine e_sw (c := a3 = 0) (s1 := (56, [none, none, some (.inl a2), some (.inl a3), some (.inr (.inr (some (5, r1))))], [], m)) rfl hres (fun hc hres => ?_) (fun hc hres hst => ?_)
    · refine e_steps 3 (s' := (62, [none, none, some (.inl a2), some (.inl a3), some (.inr (.inr (some (5, r1))))], [.inl a2, .inr (.inr (some (37, r1)))], m)) rfl ?_
      refine e_gd (s1 := (63, [none, none, some (.inl a2), some (.inl a3), some (.inr (.inr (some (5, r1))))], [.inl (m 37 r1 a2.toNatClampNeg)], m)) rfl hres (fun hc hres => ?_)
      obtain rfl := Option.some.inj hres
      exact e_ret rfl rfl
    · refine e_sw (c := a3 = 1) (s1 := (64, [none, none, some (.inl a2), some (.inl a3), some (.inr (.inr (some (5, r1))))], [], m)) hst hres (fun hc hres => ?_) (fun hc hres hst => ?_)
      · refine e_steps 3 (s' := (70, [none, none, some (.inl a2), some (.inl a3), some (.inr (.inr (some (5, r1))))], [.inl a2, .inr (.inr (some (38, r1)))], m)) rfl ?_
        refine e_gd (s1 := (71, [none, none, some (.inl a2), some (.inl a3), some (.inr (.inr (some (5, r1))))], [.inl (m 38 r1 a2.toNatClampNeg)], m)) rfl hres (fun hc hres => ?_)
        obtain rfl := Option.some.inj hres
        exact e_ret rfl rfl
      · refine e_sw (c := a3 = 2) (s1 := (72, [none, none, some (.inl a2), some (.inl a3), some (.inr (.inr (some (5, r1))))], [], m)) hst hres (fun hc hres => ?_) (fun hc hres hst => ?_)
        · refine e_steps 3 (s' := (78, [none, none, some (.inl a2), some (.inl a3), some (.inr (.inr (some (5, r1))))], [.inl a2, .inr (.inr (some (39, r1)))], m)) rfl ?_
          refine e_gd (s1 := (79, [none, none, some (.inl a2), some (.inl a3), some (.inr (.inr (some (5, r1))))], [.inl (m 39 r1 a2.toNatClampNeg)], m)) rfl hres (fun hc hres => ?_)
          obtain rfl := Option.some.inj hres
          exact e_ret rfl rfl
        · refine e_step (s' := (80, [none, none, some (.inl a2), some (.inl a3), some (.inr (.inr (some (5, r1))))], [], m)) hst ?_
          obtain rfl := Option.some.inj hres
          exact e_ret rfl rfl
  · refine e_if (s1 := (22, [some (.inr (.inr (some (0, 0)))), some (.inl a1), some (.inl a2), some (.inl a3), some (.inr (.inr (some (5, r1))))], [], m)) (s2 := (12, [some (.inr (.inr (some (0, 0)))), some (.inl a1), some (.inl a2), some (.inl a3), some (.inr (.inr (some (5, r1))))], [], m)) rfl hres (fun hc hres => ?_) (fun hc hres => ?_)
    · exact e_mask (L' := [none, none, some (.inl a2), some (.inl a3), some (.inr (.inr (some (5, r1))))]) rfl (hk2  hres)
    · refine e_steps 1 (s' := (13, [some (.inr (.inr (some (0, 0)))), some (.inl a1), some (.inl a2), some (.inl a3), some (.inr (.inr (some (5, r1))))], [.inl a3], m)) rfl ?_
      refine e_if (s1 := (22, [some (.inr (.inr (some (0, 0)))), some (.inl a1), some (.inl a2), some (.inl a3), some (.inr (.inr (some (5, r1))))], [], m)) (s2 := (16, [some (.inr (.inr (some (0, 0)))), some (.inl a1), some (.inl a2), some (.inl a3), some (.inr (.inr (some (5, r1))))], [], m)) rfl hres (fun hc hres => ?_) (fun hc hres => ?_)
      · exact e_mask (L' := [none, none, some (.inl a2), some (.inl a3), some (.inr (.inr (some (5, r1))))]) rfl (hk2  hres)
      · refine e_steps 2 (s' := (21, [some (.inr (.inr (some (0, 0)))), some (.inl a1), some (.inl a2), some (.inl a3), some (.inr (.inr (some (5, r1))))], [.inl (m 5 r1 4)], m)) rfl ?_
        obtain rfl := Option.some.inj hres
        exact e_ret rfl rfl
/-- GlassThreads.needColour(I)V -/
def f_X11_needColour (a0 : Int32) (m : mm_M) : Option (Nat ⊕ (Unit)) :=
if a0 < 0 then (some (.inl 1))
else (if a0 < 8 then (some (.inr ()))
else (some (.inl 1)))
set_option maxHeartbeats 4000000 in
set_option maxRecDepth 100000 in
theorem k_X11_needColour (d : Nat) (hd : 0 ≤ d) (a0 : Int32) (m : mm_M) (r : Nat ⊕ (Unit)) (hres : f_X11_needColour a0 m = some r) : mm_X d 44 [.inl a0] m (mm_th m (fun (t : Unit) => (.inl none, m, 0, 0)) r) := by
  unfold f_X11_needColour at hres
  show mm_E d 44 (0, [some (.inl a0)], [], m) (mm_th m (fun (t : Unit) => (.inl none, m, 0, 0)) r)
  refine e_steps 1 (s' := (1, [some (.inl a0)], [.inl a0], m)) rfl ?_
  refine e_if (s1 := (10, [some (.inl a0)], [], m)) (s2 := (4, [some (.inl a0)], [], m)) rfl hres (fun hc hres => ?_) (fun hc hres => ?_)
  · refine e_mask (L' := [none]) rfl ?_
    obtain rfl := Option.some.inj hres
    exact e_ret rfl rfl
  · refine e_steps 2 (s' := (7, [some (.inl a0)], [.inl 8, .inl a0], m)) rfl ?_
    refine e_if (s1 := (21, [some (.inl a0)], [], m)) (s2 := (10, [some (.inl a0)], [], m)) rfl hres (fun hc hres => ?_) (fun hc hres => ?_)
    · obtain rfl := Option.some.inj hres
      exact e_ret rfl rfl
    · refine e_mask (L' := [none]) rfl ?_
      obtain rfl := Option.some.inj hres
      exact e_ret rfl rfl
/-- GlassThreads.loss(IIII)I -/
def f_X11_loss (a1 : Int32) (a2 : Int32) (a3 : Int32) (a4 : Int32) (m : mm_M) : Option (Nat ⊕ (Int32 × mm_M)) :=
(mm_bx (f_X11_strandOf a1 m) fun r1 =>
(mm_bx (f_X11_needPart r1 a2 m) fun _ =>
(mm_bx (f_X11_needColour a3 m) fun _ =>
if a4 < 0 then (some (.inl 0))
else (if a4 ≤ 99 then (if (m 0 0 3) = -1 then (none) else (mm_let (m 0 0 3).toNatClampNeg fun i4 =>
mm_b2 (f_X3_lossOf i4 r1 a2 a3 a4 m) fun r5 m6 =>
some (.inr (r5, m6))))
else (some (.inl 0))))))
set_option maxHeartbeats 4000000 in
set_option maxRecDepth 100000 in
theorem k_X11_loss (d : Nat) (hd : 4 ≤ d) (a1 : Int32) (a2 : Int32) (a3 : Int32) (a4 : Int32) (m : mm_M) (r : Nat ⊕ (Int32 × mm_M)) (hres : f_X11_loss a1 a2 a3 a4 m = some r) : mm_X d 5 [.inr (.inr (some (0, 0))), .inl a1, .inl a2, .inl a3, .inl a4] m (mm_th m (fun (t : Int32 × mm_M) => (.inl (some (.inl t.1)), t.2, 0, 0)) r) := by
  unfold f_X11_loss at hres
  obtain ⟨d, rfl⟩ : ∃ e, d = e + 1 := ⟨d - 1, by omega⟩
  show mm_E (d + 1) 5 (0, [some (.inr (.inr (some (0, 0)))), some (.inl a1), some (.inl a2), some (.inl a3), some (.inl a4), none], [], m) (mm_th m (fun (t : Int32 × mm_M) => (.inl (some (.inl t.1)), t.2, 0, 0)) r)
  refine e_steps 2 (s' := (2, [some (.inr (.inr (some (0, 0)))), some (.inl a1), some (.inl a2), some (.inl a3), some (.inl a4), none], [.inl a1, .inr (.inr (some (0, 0)))], m)) rfl ?_
  rcases mm_bx_some hres with ⟨e9, hv, rfl⟩ | ⟨r1, hv, hres⟩
  · exact e_callx (pc := 5) (L := [some (.inr (.inr (some (0, 0)))), some (.inl a1), some (.inl a2), some (.inl a3), some (.inl a4), none]) (st := []) rfl rfl (k_X11_strandOf d (by omega) a1 _ _ hv)
  refine e_call0 (pc := 5) (L := [some (.inr (.inr (some (0, 0)))), some (.inl a1), some (.inl a2), some (.inl a3), some (.inl a4), none]) (st := []) (m' := m) (v := some (.inr (.inr (some (5, r1))))) rfl (k_X11_strandOf d (by omega) a1 _ _ hv) ?_
  show mm_E (d + 1) 5 (5, [some (.inr (.inr (some (0, 0)))), some (.inl a1), some (.inl a2), some (.inl a3), some (.inl a4), none], [.inr (.inr (some (5, r1)))], m) (mm_th m (fun (t : Int32 × mm_M) => (.inl (some (.inl t.1)), t.2, 0, 0)) r)
  refine e_steps 3 (s' := (10, [some (.inr (.inr (some (0, 0)))), some (.inl a1), some (.inl a2), some (.inl a3), some (.inl a4), some (.inr (.inr (some (5, r1))))], [.inl a2, .inr (.inr (some (5, r1)))], m)) rfl ?_
  rcases mm_bx_some hres with ⟨e9, hv, rfl⟩ | ⟨t, hv, hres⟩
  · exact e_callx (pc := 13) (L := [some (.inr (.inr (some (0, 0)))), some (.inl a1), some (.inl a2), some (.inl a3), some (.inl a4), some (.inr (.inr (some (5, r1))))]) (st := []) rfl rfl (k_X11_needPart d (by omega) r1 a2 _ _ hv)
  refine e_call0 (pc := 13) (L := [some (.inr (.inr (some (0, 0)))), some (.inl a1), some (.inl a2), some (.inl a3), some (.inl a4), some (.inr (.inr (some (5, r1))))]) (st := []) (m' := m) (v := none) rfl (k_X11_needPart d (by omega) r1 a2 _ _ hv) ?_
  show mm_E (d + 1) 5 (13, [some (.inr (.inr (some (0, 0)))), some (.inl a1), some (.inl a2), some (.inl a3), some (.inl a4), some (.inr (.inr (some (5, r1))))], [], m) (mm_th m (fun (t : Int32 × mm_M) => (.inl (some (.inl t.1)), t.2, 0, 0)) r)
  refine e_steps 1 (s' := (14, [some (.inr (.inr (some (0, 0)))), some (.inl a1), some (.inl a2), some (.inl a3), some (.inl a4), some (.inr (.inr (some (5, r1))))], [.inl a3], m)) rfl ?_
  rcases mm_bx_some hres with ⟨e9, hv, rfl⟩ | ⟨t, hv, hres⟩
  · exact e_callx (pc := 17) (L := [some (.inr (.inr (some (0, 0)))), some (.inl a1), some (.inl a2), some (.inl a3), some (.inl a4), some (.inr (.inr (some (5, r1))))]) (st := []) rfl rfl (k_X11_needColour d (by omega) a3 _ _ hv)
  refine e_call0 (pc := 17) (L := [some (.inr (.inr (some (0, 0)))), some (.inl a1), some (.inl a2), some (.inl a3), some (.inl a4), some (.inr (.inr (some (5, r1))))]) (st := []) (m' := m) (v := none) rfl (k_X11_needColour d (by omega) a3 _ _ hv) ?_
  show mm_E (d + 1) 5 (17, [some (.inr (.inr (some (0, 0)))), some (.inl a1), some (.inl a2), some (.inl a3), some (.inl a4), some (.inr (.inr (some (5, r1))))], [], m) (mm_th m (fun (t : Int32 × mm_M) => (.inl (some (.inl t.1)), t.2, 0, 0)) r)
  refine e_steps 1 (s' := (19, [some (.inr (.inr (some (0, 0)))), some (.inl a1), some (.inl a2), some (.inl a3), some (.inl a4), some (.inr (.inr (some (5, r1))))], [.inl a4], m)) rfl ?_
  refine e_if (s1 := (29, [some (.inr (.inr (some (0, 0)))), some (.inl a1), some (.inl a2), some (.inl a3), some (.inl a4), some (.inr (.inr (some (5, r1))))], [], m)) (s2 := (22, [some (.inr (.inr (some (0, 0)))), some (.inl a1), some (.inl a2), some (.inl a3), some (.inl a4), some (.inr (.inr (some (5, r1))))], [], m)) rfl hres (fun hc hres => ?_) (fun hc hres => ?_)
  · refine e_mask (L' := [none, none, none, none, none, none]) rfl ?_
    obtain rfl := Option.some.inj hres
    exact e_ret rfl rfl
  · refine e_steps 2 (s' := (26, [some (.inr (.inr (some (0, 0)))), some (.inl a1), some (.inl a2), some (.inl a3), some (.inl a4), some (.inr (.inr (some (5, r1))))], [.inl 99, .inl a4], m)) rfl ?_
    refine e_if (s1 := (39, [some (.inr (.inr (some (0, 0)))), some (.inl a1), some (.inl a2), some (.inl a3), some (.inl a4), some (.inr (.inr (some (5, r1))))], [], m)) (s2 := (29, [some (.inr (.inr (some (0, 0)))), some (.inl a1), some (.inl a2), some (.inl a3), some (.inl a4), some (.inr (.inr (some (5, r1))))], [], m)) rfl hres (fun hc hres => ?_) (fun hc hres => ?_)
    · refine e_steps 1 (s' := (40, [some (.inr (.inr (some (0, 0)))), some (.inl a1), some (.inl a2), some (.inl a3), some (.inl a4), some (.inr (.inr (some (5, r1))))], [.inr (.inr (some (0, 0)))], m)) rfl ?_
      refine e_if (s1 := (43, [some (.inr (.inr (some (0, 0)))), some (.inl a1), some (.inl a2), some (.inl a3), some (.inl a4), some (.inr (.inr (some (5, r1))))], [.inr (.inr none)], m)) (s2 := (43, [some (.inr (.inr (some (0, 0)))), some (.inl a1), some (.inl a2), some (.inl a3), some (.inl a4), some (.inr (.inr (some (5, r1))))], [.inr (.inr (some (2, (m 0 0 3).toNatClampNeg)))], m)) rfl hres (fun hc hres => ?_) (fun hc hres => ?_)
      · refine e_steps 4 (s' := (49, [some (.inr (.inr (some (0, 0)))), some (.inl a1), some (.inl a2), some (.inl a3), some (.inl a4), some (.inr (.inr (some (5, r1))))], [.inl a4, .inl a3, .inl a2, .inr (.inr (some (5, r1))), .inr (.inr none)], m)) rfl ?_
        cases hres
      · refine e_let (fun (i4 : Nat) => (43, [some (.inr (.inr (some (0, 0)))), some (.inl a1), some (.inl a2), some (.inl a3), some (.inl a4), some (.inr (.inr (some (5, r1))))], [.inr (.inr (some (2, i4)))], m)) hres (fun i4 hres => ?_)
        refine e_steps 4 (s' := (49, [some (.inr (.inr (some (0, 0)))), some (.inl a1), some (.inl a2), some (.inl a3), some (.inl a4), some (.inr (.inr (some (5, r1))))], [.inl a4, .inl a3, .inl a2, .inr (.inr (some (5, r1))), .inr (.inr (some (2, i4)))], m)) rfl ?_
        obtain ⟨r5, m6, hv, hres⟩ := mm_b2_some hres
        refine e_call0 (pc := 52) (L := [some (.inr (.inr (some (0, 0)))), some (.inl a1), some (.inl a2), some (.inl a3), some (.inl a4), some (.inr (.inr (some (5, r1))))]) (st := []) (m' := m6) (v := some (.inl r5)) rfl (k_X3_lossOf d (by omega) i4 r1 a2 a3 a4 _ _ hv) ?_
        show mm_E (d + 1) 5 (52, [some (.inr (.inr (some (0, 0)))), some (.inl a1), some (.inl a2), some (.inl a3), some (.inl a4), some (.inr (.inr (some (5, r1))))], [.inl r5], m6) (mm_th m (fun (t : Int32 × mm_M) => (.inl (some (.inl t.1)), t.2, 0, 0)) r)
        obtain rfl := Option.some.inj hres
        exact e_ret rfl rfl
    · refine e_mask (L' := [none, none, none, none, none, none]) rfl ?_
      obtain rfl := Option.some.inj hres
      exact e_ret rfl rfl
/-- GlassThreads.evenings(I)I -/
def f_X11_evenings (a1 : Int32) (m : mm_M) : Option (Nat ⊕ (Int32 × mm_M)) :=
if a1 < 0 then (some (.inl 0))
else (if a1 ≤ (999 - (m 0 0 6)) then (mm_let (mm_w m 0 0 6 ((m 0 0 6) + a1)) fun m1 =>
some (.inr ((m1 0 0 6), m1)))
else (some (.inl 0)))
set_option maxHeartbeats 4000000 in
set_option maxRecDepth 100000 in
theorem k_X11_evenings (d : Nat) (hd : 0 ≤ d) (a1 : Int32) (m : mm_M) (r : Nat ⊕ (Int32 × mm_M)) (hres : f_X11_evenings a1 m = some r) : mm_X d 6 [.inr (.inr (some (0, 0))), .inl a1] m (mm_th m (fun (t : Int32 × mm_M) => (.inl (some (.inl t.1)), t.2, 0, 0)) r) := by
  unfold f_X11_evenings at hres
  show mm_E d 6 (0, [some (.inr (.inr (some (0, 0)))), some (.inl a1)], [], m) (mm_th m (fun (t : Int32 × mm_M) => (.inl (some (.inl t.1)), t.2, 0, 0)) r)
  refine e_steps 1 (s' := (1, [some (.inr (.inr (some (0, 0)))), some (.inl a1)], [.inl a1], m)) rfl ?_
  refine e_if (s1 := (16, [some (.inr (.inr (some (0, 0)))), some (.inl a1)], [], m)) (s2 := (4, [some (.inr (.inr (some (0, 0)))), some (.inl a1)], [], m)) rfl hres (fun hc hres => ?_) (fun hc hres => ?_)
  · refine e_mask (L' := [none, none]) rfl ?_
    obtain rfl := Option.some.inj hres
    exact e_ret rfl rfl
  · refine e_steps 5 (s' := (13, [some (.inr (.inr (some (0, 0)))), some (.inl a1)], [.inl (999 - (m 0 0 6)), .inl a1], m)) rfl ?_
    refine e_if (s1 := (26, [some (.inr (.inr (some (0, 0)))), some (.inl a1)], [], m)) (s2 := (16, [some (.inr (.inr (some (0, 0)))), some (.inl a1)], [], m)) rfl hres (fun hc hres => ?_) (fun hc hres => ?_)
    · refine e_steps 6 (s' := (36, [some (.inr (.inr (some (0, 0)))), some (.inl a1)], [], (mm_w m 0 0 6 ((m 0 0 6) + a1)))) rfl ?_
      refine e_let (fun (m1 : mm_M) => (36, [some (.inr (.inr (some (0, 0)))), some (.inl a1)], [], m1)) hres (fun m1 hres => ?_)
      refine e_steps 2 (s' := (40, [some (.inr (.inr (some (0, 0)))), some (.inl a1)], [.inl (m1 0 0 6)], m1)) rfl ?_
      obtain rfl := Option.some.inj hres
      exact e_ret rfl rfl
    · refine e_mask (L' := [none, none]) rfl ?_
      obtain rfl := Option.some.inj hres
      exact e_ret rfl rfl
/-- GlassThreads.isDay(I)Z -/
def f_X11_isDay (a0 : Int32) (m : mm_M) : Option (Int32) :=
if a0 < 0 then (some 0)
else (if 36499 < a0 then (some 0)
else (some 1))
set_option maxHeartbeats 4000000 in
set_option maxRecDepth 100000 in
theorem k_X11_isDay (d : Nat) (hd : 0 ≤ d) (a0 : Int32) (m : mm_M) (r : Int32) (hres : f_X11_isDay a0 m = some r) : mm_X d 51 [.inl a0] m (.inl (some (.inl r)), m, 0, 0) := by
  unfold f_X11_isDay at hres
  show mm_E d 51 (0, [some (.inl a0)], [], m) (.inl (some (.inl r)), m, 0, 0)
  refine e_steps 1 (s' := (1, [some (.inl a0)], [.inl a0], m)) rfl ?_
  refine e_if (s1 := (15, [some (.inl a0)], [], m)) (s2 := (4, [some (.inl a0)], [], m)) rfl hres (fun hc hres => ?_) (fun hc hres => ?_)
  · refine e_mask (L' := [none]) rfl ?_
    refine e_steps 1 (s' := (16, [none], [.inl 0], m)) rfl ?_
    obtain rfl := Option.some.inj hres
    exact e_ret rfl rfl
  · refine e_steps 2 (s' := (8, [some (.inl a0)], [.inl 36499, .inl a0], m)) rfl ?_
    refine e_if (s1 := (15, [some (.inl a0)], [], m)) (s2 := (11, [some (.inl a0)], [], m)) rfl hres (fun hc hres => ?_) (fun hc hres => ?_)
    · refine e_mask (L' := [none]) rfl ?_
      refine e_steps 1 (s' := (16, [none], [.inl 0], m)) rfl ?_
      obtain rfl := Option.some.inj hres
      exact e_ret rfl rfl
    · refine e_steps 2 (s' := (16, [some (.inl a0)], [.inl 1], m)) rfl ?_
      refine e_mask (L' := [none]) rfl ?_
      obtain rfl := Option.some.inj hres
      exact e_ret rfl rfl
/-- GlassThreads.event(IIIII)I -/
def f_X11_event (a1 : Int32) (a2 : Int32) (a3 : Int32) (a4 : Int32) (a5 : Int32) (m : mm_M) : Option (Nat ⊕ (Int32 × mm_M)) :=
if a1 < 0 then (some (.inl 1))
else (if a1 ≤ 3 then ((mm_bx (f_X11_strandOf a2 m) fun r1 =>
(mm_bx (f_X11_needPart r1 a3 m) fun _ =>
mm_b1 (f_X11_isDay a5 m) fun r3 =>
if r3 = 0 then (some (.inr ((-1), m)))
else (mm_b1 (f_X8_canHappen r1 a1 a3 a4 m) fun r4 =>
if r4 ≠ 0 then (mm_b2 (f_X0_tell a1 a2 a3 a4 a5 (m 0 0 6) m) fun r5 m6 =>
some (.inr (r5, m6)))
else (some (.inr ((-1), m)))))))
else (some (.inl 1)))
set_option maxHeartbeats 4000000 in
set_option maxRecDepth 100000 in
theorem k_X11_event (d : Nat) (hd : 1 ≤ d) (a1 : Int32) (a2 : Int32) (a3 : Int32) (a4 : Int32) (a5 : Int32) (m : mm_M) (r : Nat ⊕ (Int32 × mm_M)) (hres : f_X11_event a1 a2 a3 a4 a5 m = some r) : mm_X d 7 [.inr (.inr (some (0, 0))), .inl a1, .inl a2, .inl a3, .inl a4, .inl a5] m (mm_th m (fun (t : Int32 × mm_M) => (.inl (some (.inl t.1)), t.2, 0, 0)) r) := by
  unfold f_X11_event at hres
  obtain ⟨d, rfl⟩ : ∃ e, d = e + 1 := ⟨d - 1, by omega⟩
  show mm_E (d + 1) 7 (0, [some (.inr (.inr (some (0, 0)))), some (.inl a1), some (.inl a2), some (.inl a3), some (.inl a4), some (.inl a5), none], [], m) (mm_th m (fun (t : Int32 × mm_M) => (.inl (some (.inl t.1)), t.2, 0, 0)) r)
  refine e_steps 1 (s' := (1, [some (.inr (.inr (some (0, 0)))), some (.inl a1), some (.inl a2), some (.inl a3), some (.inl a4), some (.inl a5), none], [.inl a1], m)) rfl ?_
  refine e_if (s1 := (9, [some (.inr (.inr (some (0, 0)))), some (.inl a1), some (.inl a2), some (.inl a3), some (.inl a4), some (.inl a5), none], [], m)) (s2 := (4, [some (.inr (.inr (some (0, 0)))), some (.inl a1), some (.inl a2), some (.inl a3), some (.inl a4), some (.inl a5), none], [], m)) rfl hres (fun hc hres => ?_) (fun hc hres => ?_)
  · refine e_mask (L' := [none, none, none, none, none, none, none]) rfl ?_
    obtain rfl := Option.some.inj hres
    exact e_ret rfl rfl
  · refine e_steps 2 (s' := (6, [some (.inr (.inr (some (0, 0)))), some (.inl a1), some (.inl a2), some (.inl a3), some (.inl a4), some (.inl a5), none], [.inl 3, .inl a1], m)) rfl ?_
    refine e_if (s1 := (19, [some (.inr (.inr (some (0, 0)))), some (.inl a1), some (.inl a2), some (.inl a3), some (.inl a4), some (.inl a5), none], [], m)) (s2 := (9, [some (.inr (.inr (some (0, 0)))), some (.inl a1), some (.inl a2), some (.inl a3), some (.inl a4), some (.inl a5), none], [], m)) rfl hres (fun hc hres => ?_) (fun hc hres => ?_)
    · refine e_steps 2 (s' := (21, [some (.inr (.inr (some (0, 0)))), some (.inl a1), some (.inl a2), some (.inl a3), some (.inl a4), some (.inl a5), none], [.inl a2, .inr (.inr (some (0, 0)))], m)) rfl ?_
      rcases mm_bx_some hres with ⟨e9, hv, rfl⟩ | ⟨r1, hv, hres⟩
      · exact e_callx (pc := 24) (L := [some (.inr (.inr (some (0, 0)))), some (.inl a1), some (.inl a2), some (.inl a3), some (.inl a4), some (.inl a5), none]) (st := []) rfl rfl (k_X11_strandOf d (by omega) a2 _ _ hv)
      refine e_call0 (pc := 24) (L := [some (.inr (.inr (some (0, 0)))), some (.inl a1), some (.inl a2), some (.inl a3), some (.inl a4), some (.inl a5), none]) (st := []) (m' := m) (v := some (.inr (.inr (some (5, r1))))) rfl (k_X11_strandOf d (by omega) a2 _ _ hv) ?_
      show mm_E (d + 1) 7 (24, [some (.inr (.inr (some (0, 0)))), some (.inl a1), some (.inl a2), some (.inl a3), some (.inl a4), some (.inl a5), none], [.inr (.inr (some (5, r1)))], m) (mm_th m (fun (t : Int32 × mm_M) => (.inl (some (.inl t.1)), t.2, 0, 0)) r)
      refine e_steps 3 (s' := (29, [some (.inr (.inr (some (0, 0)))), some (.inl a1), some (.inl a2), some (.inl a3), some (.inl a4), some (.inl a5), some (.inr (.inr (some (5, r1))))], [.inl a3, .inr (.inr (some (5, r1)))], m)) rfl ?_
      rcases mm_bx_some hres with ⟨e9, hv, rfl⟩ | ⟨t, hv, hres⟩
      · exact e_callx (pc := 32) (L := [some (.inr (.inr (some (0, 0)))), some (.inl a1), some (.inl a2), some (.inl a3), some (.inl a4), some (.inl a5), some (.inr (.inr (some (5, r1))))]) (st := []) rfl rfl (k_X11_needPart d (by omega) r1 a3 _ _ hv)
      refine e_call0 (pc := 32) (L := [some (.inr (.inr (some (0, 0)))), some (.inl a1), some (.inl a2), some (.inl a3), some (.inl a4), some (.inl a5), some (.inr (.inr (some (5, r1))))]) (st := []) (m' := m) (v := none) rfl (k_X11_needPart d (by omega) r1 a3 _ _ hv) ?_
      show mm_E (d + 1) 7 (32, [some (.inr (.inr (some (0, 0)))), some (.inl a1), some (.inl a2), some (.inl a3), some (.inl a4), some (.inl a5), some (.inr (.inr (some (5, r1))))], [], m) (mm_th m (fun (t : Int32 × mm_M) => (.inl (some (.inl t.1)), t.2, 0, 0)) r)
      refine e_steps 1 (s' := (34, [some (.inr (.inr (some (0, 0)))), some (.inl a1), some (.inl a2), some (.inl a3), some (.inl a4), some (.inl a5), some (.inr (.inr (some (5, r1))))], [.inl a5], m)) rfl ?_
      obtain ⟨r3, hv, hres⟩ := mm_b1_some hres
      refine e_call0 (pc := 37) (L := [some (.inr (.inr (some (0, 0)))), some (.inl a1), some (.inl a2), some (.inl a3), some (.inl a4), some (.inl a5), some (.inr (.inr (some (5, r1))))]) (st := []) (m' := m) (v := some (.inl r3)) rfl (k_X11_isDay d (by omega) a5 _ _ hv) ?_
      show mm_E (d + 1) 7 (37, [some (.inr (.inr (some (0, 0)))), some (.inl a1), some (.inl a2), some (.inl a3), some (.inl a4), some (.inl a5), some (.inr (.inr (some (5, r1))))], [.inl r3], m) (mm_th m (fun (t : Int32 × mm_M) => (.inl (some (.inl t.1)), t.2, 0, 0)) r)
      refine e_if (s1 := (52, [some (.inr (.inr (some (0, 0)))), some (.inl a1), some (.inl a2), some (.inl a3), some (.inl a4), some (.inl a5), some (.inr (.inr (some (5, r1))))], [], m)) (s2 := (40, [some (.inr (.inr (some (0, 0)))), some (.inl a1), some (.inl a2), some (.inl a3), some (.inl a4), some (.inl a5), some (.inr (.inr (some (5, r1))))], [], m)) rfl hres (fun hc hres => ?_) (fun hc hres => ?_)
      · refine e_mask (L' := [none, none, none, none, none, none, none]) rfl ?_
        refine e_steps 1 (s' := (53, [none, none, none, none, none, none, none], [.inl (-1)], m)) rfl ?_
        obtain rfl := Option.some.inj hres
        exact e_ret rfl rfl
      · refine e_steps 4 (s' := (46, [some (.inr (.inr (some (0, 0)))), some (.inl a1), some (.inl a2), some (.inl a3), some (.inl a4), some (.inl a5), some (.inr (.inr (some (5, r1))))], [.inl a4, .inl a3, .inl a1, .inr (.inr (some (5, r1)))], m)) rfl ?_
        obtain ⟨r4, hv, hres⟩ := mm_b1_some hres
        refine e_call0 (pc := 49) (L := [some (.inr (.inr (some (0, 0)))), some (.inl a1), some (.inl a2), some (.inl a3), some (.inl a4), some (.inl a5), some (.inr (.inr (some (5, r1))))]) (st := []) (m' := m) (v := some (.inl r4)) rfl (k_X8_canHappen d (by omega) r1 a1 a3 a4 _ _ hv) ?_
        show mm_E (d + 1) 7 (49, [some (.inr (.inr (some (0, 0)))), some (.inl a1), some (.inl a2), some (.inl a3), some (.inl a4), some (.inl a5), some (.inr (.inr (some (5, r1))))], [.inl r4], m) (mm_th m (fun (t : Int32 × mm_M) => (.inl (some (.inl t.1)), t.2, 0, 0)) r)
        refine e_if (s1 := (54, [some (.inr (.inr (some (0, 0)))), some (.inl a1), some (.inl a2), some (.inl a3), some (.inl a4), some (.inl a5), some (.inr (.inr (some (5, r1))))], [], m)) (s2 := (52, [some (.inr (.inr (some (0, 0)))), some (.inl a1), some (.inl a2), some (.inl a3), some (.inl a4), some (.inl a5), some (.inr (.inr (some (5, r1))))], [], m)) rfl hres (fun hc hres => ?_) (fun hc hres => ?_)
        · refine e_steps 9 (s' := (69, [some (.inr (.inr (some (0, 0)))), some (.inl a1), some (.inl a2), some (.inl a3), some (.inl a4), some (.inl a5), some (.inr (.inr (some (5, r1))))], [.inl (m 0 0 6), .inl a5, .inl a4, .inl a3, .inl a2, .inl a1, .inr (.inr (some (3, 0)))], m)) rfl ?_
          obtain ⟨r5, m6, hv, hres⟩ := mm_b2_some hres
          refine e_call0 (pc := 72) (L := [some (.inr (.inr (some (0, 0)))), some (.inl a1), some (.inl a2), some (.inl a3), some (.inl a4), some (.inl a5), some (.inr (.inr (some (5, r1))))]) (st := []) (m' := m6) (v := some (.inl r5)) rfl (k_X0_tell d (by omega) a1 a2 a3 a4 a5 (m 0 0 6) _ _ hv) ?_
          show mm_E (d + 1) 7 (72, [some (.inr (.inr (some (0, 0)))), some (.inl a1), some (.inl a2), some (.inl a3), some (.inl a4), some (.inl a5), some (.inr (.inr (some (5, r1))))], [.inl r5], m6) (mm_th m (fun (t : Int32 × mm_M) => (.inl (some (.inl t.1)), t.2, 0, 0)) r)
          obtain rfl := Option.some.inj hres
          exact e_ret rfl rfl
        · refine e_mask (L' := [none, none, none, none, none, none, none]) rfl ?_
          refine e_steps 1 (s' := (53, [none, none, none, none, none, none, none], [.inl (-1)], m)) rfl ?_
          obtain rfl := Option.some.inj hres
          exact e_ret rfl rfl
    · refine e_mask (L' := [none, none, none, none, none, none, none]) rfl ?_
      obtain rfl := Option.some.inj hres
      exact e_ret rfl rfl
/-- GlassThreads.back(I)Z -/
def f_X11_back (a1 : Int32) (m : mm_M) : Option (Nat ⊕ (Int32 × mm_M)) :=
if a1 < 0 then (some (.inl 1))
else (if a1 < (m 3 0 8) then (mm_b2 (f_X0_takeBack a1 (m 0 0 6) m) fun r1 m2 =>
if r1 = 0 ∨ r1 = 1 then some (.inr (r1, m2)) else none)
else (some (.inl 1)))
set_option maxHeartbeats 4000000 in
set_option maxRecDepth 100000 in
theorem k_X11_back (d : Nat) (hd : 1 ≤ d) (a1 : Int32) (m : mm_M) (r : Nat ⊕ (Int32 × mm_M)) (hres : f_X11_back a1 m = some r) : mm_X d 8 [.inr (.inr (some (0, 0))), .inl a1] m (mm_th m (fun (t : Int32 × mm_M) => (.inl (some (.inl t.1)), t.2, 0, 0)) r) := by
  unfold f_X11_back at hres
  obtain ⟨d, rfl⟩ : ∃ e, d = e + 1 := ⟨d - 1, by omega⟩
  show mm_E (d + 1) 8 (0, [some (.inr (.inr (some (0, 0)))), some (.inl a1)], [], m) (mm_th m (fun (t : Int32 × mm_M) => (.inl (some (.inl t.1)), t.2, 0, 0)) r)
  refine e_steps 1 (s' := (1, [some (.inr (.inr (some (0, 0)))), some (.inl a1)], [.inl a1], m)) rfl ?_
  refine e_if (s1 := (15, [some (.inr (.inr (some (0, 0)))), some (.inl a1)], [], m)) (s2 := (4, [some (.inr (.inr (some (0, 0)))), some (.inl a1)], [], m)) rfl hres (fun hc hres => ?_) (fun hc hres => ?_)
  · refine e_mask (L' := [none, none]) rfl ?_
    obtain rfl := Option.some.inj hres
    exact e_ret rfl rfl
  · refine e_steps 4 (s' := (12, [some (.inr (.inr (some (0, 0)))), some (.inl a1)], [.inl (m 3 0 8), .inl a1], m)) rfl ?_
    refine e_if (s1 := (25, [some (.inr (.inr (some (0, 0)))), some (.inl a1)], [], m)) (s2 := (15, [some (.inr (.inr (some (0, 0)))), some (.inl a1)], [], m)) rfl hres (fun hc hres => ?_) (fun hc hres => ?_)
    · refine e_steps 5 (s' := (34, [some (.inr (.inr (some (0, 0)))), some (.inl a1)], [.inl (m 0 0 6), .inl a1, .inr (.inr (some (3, 0)))], m)) rfl ?_
      obtain ⟨r1, m2, hv, hres⟩ := mm_b2_some hres
      refine e_call0 (pc := 37) (L := [some (.inr (.inr (some (0, 0)))), some (.inl a1)]) (st := []) (m' := m2) (v := some (.inl r1)) rfl (k_X0_takeBack d (by omega) a1 (m 0 0 6) _ _ hv) ?_
      show mm_E (d + 1) 8 (37, [some (.inr (.inr (some (0, 0)))), some (.inl a1)], [.inl r1], m2) (mm_th m (fun (t : Int32 × mm_M) => (.inl (some (.inl t.1)), t.2, 0, 0)) r)
      refine e_gr (o := .inl (some (.inl r1))) rfl hres (fun hc hres => ?_)
      obtain rfl := Option.some.inj hres
      rfl
    · refine e_mask (L' := [none, none]) rfl ?_
      obtain rfl := Option.some.inj hres
      exact e_ret rfl rfl
/-- GlassThreads.needDay(I)V -/
def f_X11_needDay (a0 : Int32) (m : mm_M) : Option (Nat ⊕ (Unit)) :=
mm_b1 (f_X11_isDay a0 m) fun r1 =>
if r1 ≠ 0 then (some (.inr ()))
else (some (.inl 1))
set_option maxHeartbeats 4000000 in
set_option maxRecDepth 100000 in
theorem k_X11_needDay (d : Nat) (hd : 1 ≤ d) (a0 : Int32) (m : mm_M) (r : Nat ⊕ (Unit)) (hres : f_X11_needDay a0 m = some r) : mm_X d 45 [.inl a0] m (mm_th m (fun (t : Unit) => (.inl none, m, 0, 0)) r) := by
  unfold f_X11_needDay at hres
  obtain ⟨d, rfl⟩ : ∃ e, d = e + 1 := ⟨d - 1, by omega⟩
  show mm_E (d + 1) 45 (0, [some (.inl a0)], [], m) (mm_th m (fun (t : Unit) => (.inl none, m, 0, 0)) r)
  refine e_steps 1 (s' := (1, [some (.inl a0)], [.inl a0], m)) rfl ?_
  obtain ⟨r1, hv, hres⟩ := mm_b1_some hres
  refine e_call0 (pc := 4) (L := [some (.inl a0)]) (st := []) (m' := m) (v := some (.inl r1)) rfl (k_X11_isDay d (by omega) a0 _ _ hv) ?_
  show mm_E (d + 1) 45 (4, [some (.inl a0)], [.inl r1], m) (mm_th m (fun (t : Unit) => (.inl none, m, 0, 0)) r)
  refine e_if (s1 := (18, [some (.inl a0)], [], m)) (s2 := (7, [some (.inl a0)], [], m)) rfl hres (fun hc hres => ?_) (fun hc hres => ?_)
  · obtain rfl := Option.some.inj hres
    exact e_ret rfl rfl
  · obtain rfl := Option.some.inj hres
    exact e_ret rfl rfl
/-- GlassThreads.needLevel(I)V -/
def f_X11_needLevel (a0 : Int32) (m : mm_M) : Option (Nat ⊕ (Unit)) :=
if a0 < (-60000) then (some (.inl 0))
else (if a0 ≤ 30000 then (some (.inr ()))
else (some (.inl 0)))
set_option maxHeartbeats 4000000 in
set_option maxRecDepth 100000 in
theorem k_X11_needLevel (d : Nat) (hd : 0 ≤ d) (a0 : Int32) (m : mm_M) (r : Nat ⊕ (Unit)) (hres : f_X11_needLevel a0 m = some r) : mm_X d 48 [.inl a0] m (mm_th m (fun (t : Unit) => (.inl none, m, 0, 0)) r) := by
  unfold f_X11_needLevel at hres
  show mm_E d 48 (0, [some (.inl a0)], [], m) (mm_th m (fun (t : Unit) => (.inl none, m, 0, 0)) r)
  refine e_steps 2 (s' := (4, [some (.inl a0)], [.inl (-60000), .inl a0], m)) rfl ?_
  refine e_if (s1 := (14, [some (.inl a0)], [], m)) (s2 := (7, [some (.inl a0)], [], m)) rfl hres (fun hc hres => ?_) (fun hc hres => ?_)
  · refine e_mask (L' := [none]) rfl ?_
    obtain rfl := Option.some.inj hres
    exact e_ret rfl rfl
  · refine e_steps 2 (s' := (11, [some (.inl a0)], [.inl 30000, .inl a0], m)) rfl ?_
    refine e_if (s1 := (25, [some (.inl a0)], [], m)) (s2 := (14, [some (.inl a0)], [], m)) rfl hres (fun hc hres => ?_) (fun hc hres => ?_)
    · obtain rfl := Option.some.inj hres
      exact e_ret rfl rfl
    · refine e_mask (L' := [none]) rfl ?_
      obtain rfl := Option.some.inj hres
      exact e_ret rfl rfl
/-- GlassThreads.needEvening(I)V -/
def f_X11_needEvening (a1 : Int32) (m : mm_M) : Option (Nat ⊕ (Unit)) :=
if a1 < 0 then (some (.inl 0))
else (if a1 ≤ (m 0 0 6) then (some (.inr ()))
else (some (.inl 0)))
set_option maxHeartbeats 4000000 in
set_option maxRecDepth 100000 in
theorem k_X11_needEvening (d : Nat) (hd : 0 ≤ d) (a1 : Int32) (m : mm_M) (r : Nat ⊕ (Unit)) (hres : f_X11_needEvening a1 m = some r) : mm_X d 41 [.inr (.inr (some (0, 0))), .inl a1] m (mm_th m (fun (t : Unit) => (.inl none, m, 0, 0)) r) := by
  unfold f_X11_needEvening at hres
  show mm_E d 41 (0, [some (.inr (.inr (some (0, 0)))), some (.inl a1)], [], m) (mm_th m (fun (t : Unit) => (.inl none, m, 0, 0)) r)
  refine e_steps 1 (s' := (1, [some (.inr (.inr (some (0, 0)))), some (.inl a1)], [.inl a1], m)) rfl ?_
  refine e_if (s1 := (12, [some (.inr (.inr (some (0, 0)))), some (.inl a1)], [], m)) (s2 := (4, [some (.inr (.inr (some (0, 0)))), some (.inl a1)], [], m)) rfl hres (fun hc hres => ?_) (fun hc hres => ?_)
  · refine e_mask (L' := [none, none]) rfl ?_
    obtain rfl := Option.some.inj hres
    exact e_ret rfl rfl
  · refine e_steps 3 (s' := (9, [some (.inr (.inr (some (0, 0)))), some (.inl a1)], [.inl (m 0 0 6), .inl a1], m)) rfl ?_
    refine e_if (s1 := (23, [some (.inr (.inr (some (0, 0)))), some (.inl a1)], [], m)) (s2 := (12, [some (.inr (.inr (some (0, 0)))), some (.inl a1)], [], m)) rfl hres (fun hc hres => ?_) (fun hc hres => ?_)
    · obtain rfl := Option.some.inj hres
      exact e_ret rfl rfl
    · refine e_mask (L' := [none, none]) rfl ?_
      obtain rfl := Option.some.inj hres
      exact e_ret rfl rfl
/-- GlassThreads.showDay(III)V -/
def f_X11_showDay (a1 : Int32) (a2 : Int32) (a3 : Int32) (m : mm_M) : Option (Nat ⊕ (mm_M)) :=
(mm_bx (f_X11_strandOf a1 m) fun r1 =>
mm_b1 (f_X6_show r1 m) fun m3 =>
mm_b1 (f_X0_playInto a1 a2 a3 m3) fun m5 =>
some (.inr m5))
set_option maxHeartbeats 4000000 in
set_option maxRecDepth 100000 in
theorem k_X11_showDay (d : Nat) (hd : 2 ≤ d) (a1 : Int32) (a2 : Int32) (a3 : Int32) (m : mm_M) (r : Nat ⊕ (mm_M)) (hres : f_X11_showDay a1 a2 a3 m = some r) : mm_X d 53 [.inr (.inr (some (0, 0))), .inl a1, .inl a2, .inl a3] m (mm_th m (fun (t : mm_M) => (.inl none, t, 0, 0)) r) := by
  unfold f_X11_showDay at hres
  obtain ⟨d, rfl⟩ : ∃ e, d = e + 1 := ⟨d - 1, by omega⟩
  show mm_E (d + 1) 53 (0, [some (.inr (.inr (some (0, 0)))), some (.inl a1), some (.inl a2), some (.inl a3)], [], m) (mm_th m (fun (t : mm_M) => (.inl none, t, 0, 0)) r)
  refine e_steps 4 (s' := (6, [some (.inr (.inr (some (0, 0)))), some (.inl a1), some (.inl a2), some (.inl a3)], [.inl a1, .inr (.inr (some (0, 0))), .inr (.inr (some (4, 0)))], m)) rfl ?_
  rcases mm_bx_some hres with ⟨e9, hv, rfl⟩ | ⟨r1, hv, hres⟩
  · exact e_callx (pc := 9) (L := [some (.inr (.inr (some (0, 0)))), some (.inl a1), some (.inl a2), some (.inl a3)]) (st := [.inr (.inr (some (4, 0)))]) rfl rfl (k_X11_strandOf d (by omega) a1 _ _ hv)
  refine e_call0 (pc := 9) (L := [some (.inr (.inr (some (0, 0)))), some (.inl a1), some (.inl a2), some (.inl a3)]) (st := [.inr (.inr (some (4, 0)))]) (m' := m) (v := some (.inr (.inr (some (5, r1))))) rfl (k_X11_strandOf d (by omega) a1 _ _ hv) ?_
  show mm_E (d + 1) 53 (9, [some (.inr (.inr (some (0, 0)))), some (.inl a1), some (.inl a2), some (.inl a3)], [.inr (.inr (some (5, r1))), .inr (.inr (some (4, 0)))], m) (mm_th m (fun (t : mm_M) => (.inl none, t, 0, 0)) r)
  obtain ⟨m3, hv, hres⟩ := mm_b1_some hres
  refine e_call0 (pc := 12) (L := [some (.inr (.inr (some (0, 0)))), some (.inl a1), some (.inl a2), some (.inl a3)]) (st := []) (m' := m3) (v := none) rfl (k_X6_show d (by omega) r1 _ _ hv) ?_
  show mm_E (d + 1) 53 (12, [some (.inr (.inr (some (0, 0)))), some (.inl a1), some (.inl a2), some (.inl a3)], [], m3) (mm_th m (fun (t : mm_M) => (.inl none, t, 0, 0)) r)
  refine e_steps 7 (s' := (23, [some (.inr (.inr (some (0, 0)))), some (.inl a1), some (.inl a2), some (.inl a3)], [.inl a3, .inl a2, .inl a1, .inr (.inr (some (4, 0))), .inr (.inr (some (3, 0)))], m3)) rfl ?_
  obtain ⟨m5, hv, hres⟩ := mm_b1_some hres
  refine e_call0 (pc := 26) (L := [some (.inr (.inr (some (0, 0)))), some (.inl a1), some (.inl a2), some (.inl a3)]) (st := []) (m' := m5) (v := none) rfl (k_X0_playInto d (by omega) a1 a2 a3 _ _ hv) ?_
  show mm_E (d + 1) 53 (26, [some (.inr (.inr (some (0, 0)))), some (.inl a1), some (.inl a2), some (.inl a3)], [], m5) (mm_th m (fun (t : mm_M) => (.inl none, t, 0, 0)) r)
  obtain rfl := Option.some.inj hres
  exact e_ret rfl rfl
/-- GlassThreads.ageOn(ILGlassThreads$Strand;)I -/
def f_X11_ageOn (a0 : Int32) (i1 : Nat) (m : mm_M) : Option (Int32) :=
some (mm_max 0 ((a0 / 365) - (m 5 i1 5)))
set_option maxHeartbeats 4000000 in
set_option maxRecDepth 100000 in
theorem k_X11_ageOn (d : Nat) (hd : 0 ≤ d) (a0 : Int32) (i1 : Nat) (m : mm_M) (r : Int32) (hres : f_X11_ageOn a0 i1 m = some r) : mm_X d 52 [.inl a0, .inr (.inr (some (5, i1)))] m (.inl (some (.inl r)), m, 0, 0) := by
  unfold f_X11_ageOn at hres
  show mm_E d 52 (0, [some (.inl a0), some (.inr (.inr (some (5, i1))))], [], m) (.inl (some (.inl r)), m, 0, 0)
  refine e_steps 8 (s' := (14, [some (.inl a0), some (.inr (.inr (some (5, i1))))], [.inl (mm_max 0 ((a0 / 365) - (m 5 i1 5)))], m)) rfl ?_
  obtain rfl := Option.some.inj hres
  exact e_ret rfl rfl
/-- GlassThreads.level(IIIIZII)I -/
def f_X11_level (a1 : Int32) (a2 : Int32) (a3 : Int32) (a4 : Int32) (a5 : Int32) (a6 : Int32) (a7 : Int32) (m : mm_M) : Option (Nat ⊕ (Int32 × mm_M)) :=
(mm_bx (f_X11_strandOf a1 m) fun r1 =>
(mm_bx (f_X11_needPart r1 a2 m) fun _ =>
(mm_bx (f_X11_needColour a3 m) fun _ =>
(mm_bx (f_X11_needDay a6 m) fun _ =>
(mm_bx (f_X11_needLevel a4 m) fun _ =>
(mm_bx (f_X11_needEvening a7 m) fun _ =>
(mm_bx (f_X11_showDay a1 a6 a7 m) fun m8 =>
if (m8 0 0 3) = -1 then (mm_b1 (f_X11_ageOn a6 r1 m8) fun r10 =>
none) else (mm_let (m8 0 0 3).toNatClampNeg fun i9 =>
mm_b1 (f_X11_ageOn a6 r1 m8) fun r11 =>
mm_b1 (f_X6_weigh i9 a3 r11 m8) fun m13 =>
mm_b1 (f_X6_levelBehind a2 a4 a5 m13) fun r14 =>
some (.inr (r14, m13))))))))))
set_option maxHeartbeats 4000000 in
set_option maxRecDepth 100000 in
theorem k_X11_level (d : Nat) (hd : 5 ≤ d) (a1 : Int32) (a2 : Int32) (a3 : Int32) (a4 : Int32) (a5 : Int32) (a6 : Int32) (a7 : Int32) (m : mm_M) (r : Nat ⊕ (Int32 × mm_M)) (hres : f_X11_level a1 a2 a3 a4 a5 a6 a7 m = some r) : mm_X d 9 [.inr (.inr (some (0, 0))), .inl a1, .inl a2, .inl a3, .inl a4, .inl a5, .inl a6, .inl a7] m (mm_th m (fun (t : Int32 × mm_M) => (.inl (some (.inl t.1)), t.2, 0, 0)) r) := by
  unfold f_X11_level at hres
  obtain ⟨d, rfl⟩ : ∃ e, d = e + 1 := ⟨d - 1, by omega⟩
  show mm_E (d + 1) 9 (0, [some (.inr (.inr (some (0, 0)))), some (.inl a1), some (.inl a2), some (.inl a3), some (.inl a4), some (.inl a5), some (.inl a6), some (.inl a7), none], [], m) (mm_th m (fun (t : Int32 × mm_M) => (.inl (some (.inl t.1)), t.2, 0, 0)) r)
  refine e_steps 2 (s' := (2, [some (.inr (.inr (some (0, 0)))), some (.inl a1), some (.inl a2), some (.inl a3), some (.inl a4), some (.inl a5), some (.inl a6), some (.inl a7), none], [.inl a1, .inr (.inr (some (0, 0)))], m)) rfl ?_
  rcases mm_bx_some hres with ⟨e9, hv, rfl⟩ | ⟨r1, hv, hres⟩
  · exact e_callx (pc := 5) (L := [some (.inr (.inr (some (0, 0)))), some (.inl a1), some (.inl a2), some (.inl a3), some (.inl a4), some (.inl a5), some (.inl a6), some (.inl a7), none]) (st := []) rfl rfl (k_X11_strandOf d (by omega) a1 _ _ hv)
  refine e_call0 (pc := 5) (L := [some (.inr (.inr (some (0, 0)))), some (.inl a1), some (.inl a2), some (.inl a3), some (.inl a4), some (.inl a5), some (.inl a6), some (.inl a7), none]) (st := []) (m' := m) (v := some (.inr (.inr (some (5, r1))))) rfl (k_X11_strandOf d (by omega) a1 _ _ hv) ?_
  show mm_E (d + 1) 9 (5, [some (.inr (.inr (some (0, 0)))), some (.inl a1), some (.inl a2), some (.inl a3), some (.inl a4), some (.inl a5), some (.inl a6), some (.inl a7), none], [.inr (.inr (some (5, r1)))], m) (mm_th m (fun (t : Int32 × mm_M) => (.inl (some (.inl t.1)), t.2, 0, 0)) r)
  refine e_steps 3 (s' := (10, [some (.inr (.inr (some (0, 0)))), some (.inl a1), some (.inl a2), some (.inl a3), some (.inl a4), some (.inl a5), some (.inl a6), some (.inl a7), some (.inr (.inr (some (5, r1))))], [.inl a2, .inr (.inr (some (5, r1)))], m)) rfl ?_
  rcases mm_bx_some hres with ⟨e9, hv, rfl⟩ | ⟨t, hv, hres⟩
  · exact e_callx (pc := 13) (L := [some (.inr (.inr (some (0, 0)))), some (.inl a1), some (.inl a2), some (.inl a3), some (.inl a4), some (.inl a5), some (.inl a6), some (.inl a7), some (.inr (.inr (some (5, r1))))]) (st := []) rfl rfl (k_X11_needPart d (by omega) r1 a2 _ _ hv)
  refine e_call0 (pc := 13) (L := [some (.inr (.inr (some (0, 0)))), some (.inl a1), some (.inl a2), some (.inl a3), some (.inl a4), some (.inl a5), some (.inl a6), some (.inl a7), some (.inr (.inr (some (5, r1))))]) (st := []) (m' := m) (v := none) rfl (k_X11_needPart d (by omega) r1 a2 _ _ hv) ?_
  show mm_E (d + 1) 9 (13, [some (.inr (.inr (some (0, 0)))), some (.inl a1), some (.inl a2), some (.inl a3), some (.inl a4), some (.inl a5), some (.inl a6), some (.inl a7), some (.inr (.inr (some (5, r1))))], [], m) (mm_th m (fun (t : Int32 × mm_M) => (.inl (some (.inl t.1)), t.2, 0, 0)) r)
  refine e_steps 1 (s' := (14, [some (.inr (.inr (some (0, 0)))), some (.inl a1), some (.inl a2), some (.inl a3), some (.inl a4), some (.inl a5), some (.inl a6), some (.inl a7), some (.inr (.inr (some (5, r1))))], [.inl a3], m)) rfl ?_
  rcases mm_bx_some hres with ⟨e9, hv, rfl⟩ | ⟨t, hv, hres⟩
  · exact e_callx (pc := 17) (L := [some (.inr (.inr (some (0, 0)))), some (.inl a1), some (.inl a2), some (.inl a3), some (.inl a4), some (.inl a5), some (.inl a6), some (.inl a7), some (.inr (.inr (some (5, r1))))]) (st := []) rfl rfl (k_X11_needColour d (by omega) a3 _ _ hv)
  refine e_call0 (pc := 17) (L := [some (.inr (.inr (some (0, 0)))), some (.inl a1), some (.inl a2), some (.inl a3), some (.inl a4), some (.inl a5), some (.inl a6), some (.inl a7), some (.inr (.inr (some (5, r1))))]) (st := []) (m' := m) (v := none) rfl (k_X11_needColour d (by omega) a3 _ _ hv) ?_
  show mm_E (d + 1) 9 (17, [some (.inr (.inr (some (0, 0)))), some (.inl a1), some (.inl a2), some (.inl a3), some (.inl a4), some (.inl a5), some (.inl a6), some (.inl a7), some (.inr (.inr (some (5, r1))))], [], m) (mm_th m (fun (t : Int32 × mm_M) => (.inl (some (.inl t.1)), t.2, 0, 0)) r)
  refine e_steps 1 (s' := (19, [some (.inr (.inr (some (0, 0)))), some (.inl a1), some (.inl a2), some (.inl a3), some (.inl a4), some (.inl a5), some (.inl a6), some (.inl a7), some (.inr (.inr (some (5, r1))))], [.inl a6], m)) rfl ?_
  rcases mm_bx_some hres with ⟨e9, hv, rfl⟩ | ⟨t, hv, hres⟩
  · exact e_callx (pc := 22) (L := [some (.inr (.inr (some (0, 0)))), some (.inl a1), some (.inl a2), some (.inl a3), some (.inl a4), some (.inl a5), some (.inl a6), some (.inl a7), some (.inr (.inr (some (5, r1))))]) (st := []) rfl rfl (k_X11_needDay d (by omega) a6 _ _ hv)
  refine e_call0 (pc := 22) (L := [some (.inr (.inr (some (0, 0)))), some (.inl a1), some (.inl a2), some (.inl a3), some (.inl a4), some (.inl a5), some (.inl a6), some (.inl a7), some (.inr (.inr (some (5, r1))))]) (st := []) (m' := m) (v := none) rfl (k_X11_needDay d (by omega) a6 _ _ hv) ?_
  show mm_E (d + 1) 9 (22, [some (.inr (.inr (some (0, 0)))), some (.inl a1), some (.inl a2), some (.inl a3), some (.inl a4), some (.inl a5), some (.inl a6), some (.inl a7), some (.inr (.inr (some (5, r1))))], [], m) (mm_th m (fun (t : Int32 × mm_M) => (.inl (some (.inl t.1)), t.2, 0, 0)) r)
  refine e_steps 1 (s' := (24, [some (.inr (.inr (some (0, 0)))), some (.inl a1), some (.inl a2), some (.inl a3), some (.inl a4), some (.inl a5), some (.inl a6), some (.inl a7), some (.inr (.inr (some (5, r1))))], [.inl a4], m)) rfl ?_
  rcases mm_bx_some hres with ⟨e9, hv, rfl⟩ | ⟨t, hv, hres⟩
  · exact e_callx (pc := 27) (L := [some (.inr (.inr (some (0, 0)))), some (.inl a1), some (.inl a2), some (.inl a3), some (.inl a4), some (.inl a5), some (.inl a6), some (.inl a7), some (.inr (.inr (some (5, r1))))]) (st := []) rfl rfl (k_X11_needLevel d (by omega) a4 _ _ hv)
  refine e_call0 (pc := 27) (L := [some (.inr (.inr (some (0, 0)))), some (.inl a1), some (.inl a2), some (.inl a3), some (.inl a4), some (.inl a5), some (.inl a6), some (.inl a7), some (.inr (.inr (some (5, r1))))]) (st := []) (m' := m) (v := none) rfl (k_X11_needLevel d (by omega) a4 _ _ hv) ?_
  show mm_E (d + 1) 9 (27, [some (.inr (.inr (some (0, 0)))), some (.inl a1), some (.inl a2), some (.inl a3), some (.inl a4), some (.inl a5), some (.inl a6), some (.inl a7), some (.inr (.inr (some (5, r1))))], [], m) (mm_th m (fun (t : Int32 × mm_M) => (.inl (some (.inl t.1)), t.2, 0, 0)) r)
  refine e_steps 2 (s' := (30, [some (.inr (.inr (some (0, 0)))), some (.inl a1), some (.inl a2), some (.inl a3), some (.inl a4), some (.inl a5), some (.inl a6), some (.inl a7), some (.inr (.inr (some (5, r1))))], [.inl a7, .inr (.inr (some (0, 0)))], m)) rfl ?_
  rcases mm_bx_some hres with ⟨e9, hv, rfl⟩ | ⟨t, hv, hres⟩
  · exact e_callx (pc := 33) (L := [some (.inr (.inr (some (0, 0)))), some (.inl a1), some (.inl a2), some (.inl a3), some (.inl a4), some (.inl a5), some (.inl a6), some (.inl a7), some (.inr (.inr (some (5, r1))))]) (st := []) rfl rfl (k_X11_needEvening d (by omega) a7 _ _ hv)
  refine e_call0 (pc := 33) (L := [some (.inr (.inr (some (0, 0)))), some (.inl a1), some (.inl a2), some (.inl a3), some (.inl a4), some (.inl a5), some (.inl a6), some (.inl a7), some (.inr (.inr (some (5, r1))))]) (st := []) (m' := m) (v := none) rfl (k_X11_needEvening d (by omega) a7 _ _ hv) ?_
  show mm_E (d + 1) 9 (33, [some (.inr (.inr (some (0, 0)))), some (.inl a1), some (.inl a2), some (.inl a3), some (.inl a4), some (.inl a5), some (.inl a6), some (.inl a7), some (.inr (.inr (some (5, r1))))], [], m) (mm_th m (fun (t : Int32 × mm_M) => (.inl (some (.inl t.1)), t.2, 0, 0)) r)
  refine e_steps 4 (s' := (39, [some (.inr (.inr (some (0, 0)))), some (.inl a1), some (.inl a2), some (.inl a3), some (.inl a4), some (.inl a5), some (.inl a6), some (.inl a7), some (.inr (.inr (some (5, r1))))], [.inl a7, .inl a6, .inl a1, .inr (.inr (some (0, 0)))], m)) rfl ?_
  rcases mm_bx_some hres with ⟨e9, hv, rfl⟩ | ⟨m8, hv, hres⟩
  · exact e_callx (pc := 42) (L := [some (.inr (.inr (some (0, 0)))), some (.inl a1), some (.inl a2), some (.inl a3), some (.inl a4), some (.inl a5), some (.inl a6), some (.inl a7), some (.inr (.inr (some (5, r1))))]) (st := []) rfl rfl (k_X11_showDay d (by omega) a1 a6 a7 _ _ hv)
  refine e_call0 (pc := 42) (L := [some (.inr (.inr (some (0, 0)))), some (.inl a1), some (.inl a2), some (.inl a3), some (.inl a4), some (.inl a5), some (.inl a6), some (.inl a7), some (.inr (.inr (some (5, r1))))]) (st := []) (m' := m8) (v := none) rfl (k_X11_showDay d (by omega) a1 a6 a7 _ _ hv) ?_
  show mm_E (d + 1) 9 (42, [some (.inr (.inr (some (0, 0)))), some (.inl a1), some (.inl a2), some (.inl a3), some (.inl a4), some (.inl a5), some (.inl a6), some (.inl a7), some (.inr (.inr (some (5, r1))))], [], m8) (mm_th m (fun (t : Int32 × mm_M) => (.inl (some (.inl t.1)), t.2, 0, 0)) r)
  refine e_steps 3 (s' := (47, [some (.inr (.inr (some (0, 0)))), some (.inl a1), some (.inl a2), some (.inl a3), some (.inl a4), some (.inl a5), some (.inl a6), some (.inl a7), some (.inr (.inr (some (5, r1))))], [.inr (.inr (some (0, 0))), .inr (.inr (some (4, 0)))], m8)) rfl ?_
  refine e_if (s1 := (50, [some (.inr (.inr (some (0, 0)))), some (.inl a1), some (.inl a2), some (.inl a3), some (.inl a4), some (.inl a5), some (.inl a6), some (.inl a7), some (.inr (.inr (some (5, r1))))], [.inr (.inr none), .inr (.inr (some (4, 0)))], m8)) (s2 := (50, [some (.inr (.inr (some (0, 0)))), some (.inl a1), some (.inl a2), some (.inl a3), some (.inl a4), some (.inl a5), some (.inl a6), some (.inl a7), some (.inr (.inr (some (5, r1))))], [.inr (.inr (some (2, (m8 0 0 3).toNatClampNeg))), .inr (.inr (some (4, 0)))], m8)) rfl hres (fun hc hres => ?_) (fun hc hres => ?_)
  · refine e_steps 3 (s' := (55, [some (.inr (.inr (some (0, 0)))), some (.inl a1), some (.inl a2), some (.inl a3), some (.inl a4), some (.inl a5), some (.inl a6), some (.inl a7), some (.inr (.inr (some (5, r1))))], [.inr (.inr (some (5, r1))), .inl a6, .inl a3, .inr (.inr none), .inr (.inr (some (4, 0)))], m8)) rfl ?_
    obtain ⟨r10, hv, hres⟩ := mm_b1_some hres
    refine e_call0 (pc := 58) (L := [some (.inr (.inr (some (0, 0)))), some (.inl a1), some (.inl a2), some (.inl a3), some (.inl a4), some (.inl a5), some (.inl a6), some (.inl a7), some (.inr (.inr (some (5, r1))))]) (st := [.inl a3, .inr (.inr none), .inr (.inr (some (4, 0)))]) (m' := m8) (v := some (.inl r10)) rfl (k_X11_ageOn d (by omega) a6 r1 _ _ hv) ?_
    show mm_E (d + 1) 9 (58, [some (.inr (.inr (some (0, 0)))), some (.inl a1), some (.inl a2), some (.inl a3), some (.inl a4), some (.inl a5), some (.inl a6), some (.inl a7), some (.inr (.inr (some (5, r1))))], [.inl r10, .inl a3, .inr (.inr none), .inr (.inr (some (4, 0)))], m8) (mm_th m (fun (t : Int32 × mm_M) => (.inl (some (.inl t.1)), t.2, 0, 0)) r)
    cases hres
  · refine e_let (fun (i9 : Nat) => (50, [some (.inr (.inr (some (0, 0)))), some (.inl a1), some (.inl a2), some (.inl a3), some (.inl a4), some (.inl a5), some (.inl a6), some (.inl a7), some (.inr (.inr (some (5, r1))))], [.inr (.inr (some (2, i9))), .inr (.inr (some (4, 0)))], m8)) hres (fun i9 hres => ?_)
    refine e_steps 3 (s' := (55, [some (.inr (.inr (some (0, 0)))), some (.inl a1), some (.inl a2), some (.inl a3), some (.inl a4), some (.inl a5), some (.inl a6), some (.inl a7), some (.inr (.inr (some (5, r1))))], [.inr (.inr (some (5, r1))), .inl a6, .inl a3, .inr (.inr (some (2, i9))), .inr (.inr (some (4, 0)))], m8)) rfl ?_
    obtain ⟨r11, hv, hres⟩ := mm_b1_some hres
    refine e_call0 (pc := 58) (L := [some (.inr (.inr (some (0, 0)))), some (.inl a1), some (.inl a2), some (.inl a3), some (.inl a4), some (.inl a5), some (.inl a6), some (.inl a7), some (.inr (.inr (some (5, r1))))]) (st := [.inl a3, .inr (.inr (some (2, i9))), .inr (.inr (some (4, 0)))]) (m' := m8) (v := some (.inl r11)) rfl (k_X11_ageOn d (by omega) a6 r1 _ _ hv) ?_
    show mm_E (d + 1) 9 (58, [some (.inr (.inr (some (0, 0)))), some (.inl a1), some (.inl a2), some (.inl a3), some (.inl a4), some (.inl a5), some (.inl a6), some (.inl a7), some (.inr (.inr (some (5, r1))))], [.inl r11, .inl a3, .inr (.inr (some (2, i9))), .inr (.inr (some (4, 0)))], m8) (mm_th m (fun (t : Int32 × mm_M) => (.inl (some (.inl t.1)), t.2, 0, 0)) r)
    obtain ⟨m13, hv, hres⟩ := mm_b1_some hres
    refine e_call0 (pc := 61) (L := [some (.inr (.inr (some (0, 0)))), some (.inl a1), some (.inl a2), some (.inl a3), some (.inl a4), some (.inl a5), some (.inl a6), some (.inl a7), some (.inr (.inr (some (5, r1))))]) (st := []) (m' := m13) (v := none) rfl (k_X6_weigh d (by omega) i9 a3 r11 _ _ hv) ?_
    show mm_E (d + 1) 9 (61, [some (.inr (.inr (some (0, 0)))), some (.inl a1), some (.inl a2), some (.inl a3), some (.inl a4), some (.inl a5), some (.inl a6), some (.inl a7), some (.inr (.inr (some (5, r1))))], [], m13) (mm_th m (fun (t : Int32 × mm_M) => (.inl (some (.inl t.1)), t.2, 0, 0)) r)
    refine e_steps 5 (s' := (70, [some (.inr (.inr (some (0, 0)))), some (.inl a1), some (.inl a2), some (.inl a3), some (.inl a4), some (.inl a5), some (.inl a6), some (.inl a7), some (.inr (.inr (some (5, r1))))], [.inl a5, .inl a4, .inl a2, .inr (.inr (some (4, 0)))], m13)) rfl ?_
    obtain ⟨r14, hv, hres⟩ := mm_b1_some hres
    refine e_call0 (pc := 73) (L := [some (.inr (.inr (some (0, 0)))), some (.inl a1), some (.inl a2), some (.inl a3), some (.inl a4), some (.inl a5), some (.inl a6), some (.inl a7), some (.inr (.inr (some (5, r1))))]) (st := []) (m' := m13) (v := some (.inl r14)) rfl (k_X6_levelBehind d (by omega) a2 a4 a5 _ _ hv) ?_
    show mm_E (d + 1) 9 (73, [some (.inr (.inr (some (0, 0)))), some (.inl a1), some (.inl a2), some (.inl a3), some (.inl a4), some (.inl a5), some (.inl a6), some (.inl a7), some (.inr (.inr (some (5, r1))))], [.inl r14], m13) (mm_th m (fun (t : Int32 × mm_M) => (.inl (some (.inl t.1)), t.2, 0, 0)) r)
    obtain rfl := Option.some.inj hres
    exact e_ret rfl rfl
/-- GlassThreads.margin(IIIIII)I -/
def f_X11_margin (a1 : Int32) (a2 : Int32) (a3 : Int32) (a4 : Int32) (a5 : Int32) (a6 : Int32) (m : mm_M) : Option (Nat ⊕ (Int32 × mm_M)) :=
(mm_bx (f_X11_strandOf a1 m) fun r1 =>
(mm_bx (f_X11_needColour a2 m) fun _ =>
(mm_bx (f_X11_needDay a5 m) fun _ =>
(mm_bx (f_X11_needLevel a3 m) fun _ =>
(mm_bx (f_X11_needLevel a4 m) fun _ =>
(mm_bx (f_X11_needEvening a6 m) fun _ =>
(mm_bx (f_X11_showDay a1 a5 a6 m) fun m8 =>
if (m8 0 0 3) = -1 then (mm_b1 (f_X11_ageOn a5 r1 m8) fun r10 =>
none) else (mm_let (m8 0 0 3).toNatClampNeg fun i9 =>
mm_b1 (f_X11_ageOn a5 r1 m8) fun r11 =>
mm_b1 (f_X6_weigh i9 a2 r11 m8) fun m13 =>
mm_b1 (f_X6_marginOf a3 a4 m13) fun r14 =>
some (.inr (r14, m13))))))))))
set_option maxHeartbeats 4000000 in
set_option maxRecDepth 100000 in
theorem k_X11_margin (d : Nat) (hd : 5 ≤ d) (a1 : Int32) (a2 : Int32) (a3 : Int32) (a4 : Int32) (a5 : Int32) (a6 : Int32) (m : mm_M) (r : Nat ⊕ (Int32 × mm_M)) (hres : f_X11_margin a1 a2 a3 a4 a5 a6 m = some r) : mm_X d 10 [.inr (.inr (some (0, 0))), .inl a1, .inl a2, .inl a3, .inl a4, .inl a5, .inl a6] m (mm_th m (fun (t : Int32 × mm_M) => (.inl (some (.inl t.1)), t.2, 0, 0)) r) := by
  unfold f_X11_margin at hres
  obtain ⟨d, rfl⟩ : ∃ e, d = e + 1 := ⟨d - 1, by omega⟩
  show mm_E (d + 1) 10 (0, [some (.inr (.inr (some (0, 0)))), some (.inl a1), some (.inl a2), some (.inl a3), some (.inl a4), some (.inl a5), some (.inl a6), none], [], m) (mm_th m (fun (t : Int32 × mm_M) => (.inl (some (.inl t.1)), t.2, 0, 0)) r)
  refine e_steps 2 (s' := (2, [some (.inr (.inr (some (0, 0)))), some (.inl a1), some (.inl a2), some (.inl a3), some (.inl a4), some (.inl a5), some (.inl a6), none], [.inl a1, .inr (.inr (some (0, 0)))], m)) rfl ?_
  rcases mm_bx_some hres with ⟨e9, hv, rfl⟩ | ⟨r1, hv, hres⟩
  · exact e_callx (pc := 5) (L := [some (.inr (.inr (some (0, 0)))), some (.inl a1), some (.inl a2), some (.inl a3), some (.inl a4), some (.inl a5), some (.inl a6), none]) (st := []) rfl rfl (k_X11_strandOf d (by omega) a1 _ _ hv)
  refine e_call0 (pc := 5) (L := [some (.inr (.inr (some (0, 0)))), some (.inl a1), some (.inl a2), some (.inl a3), some (.inl a4), some (.inl a5), some (.inl a6), none]) (st := []) (m' := m) (v := some (.inr (.inr (some (5, r1))))) rfl (k_X11_strandOf d (by omega) a1 _ _ hv) ?_
  show mm_E (d + 1) 10 (5, [some (.inr (.inr (some (0, 0)))), some (.inl a1), some (.inl a2), some (.inl a3), some (.inl a4), some (.inl a5), some (.inl a6), none], [.inr (.inr (some (5, r1)))], m) (mm_th m (fun (t : Int32 × mm_M) => (.inl (some (.inl t.1)), t.2, 0, 0)) r)
  refine e_steps 2 (s' := (8, [some (.inr (.inr (some (0, 0)))), some (.inl a1), some (.inl a2), some (.inl a3), some (.inl a4), some (.inl a5), some (.inl a6), some (.inr (.inr (some (5, r1))))], [.inl a2], m)) rfl ?_
  rcases mm_bx_some hres with ⟨e9, hv, rfl⟩ | ⟨t, hv, hres⟩
  · exact e_callx (pc := 11) (L := [some (.inr (.inr (some (0, 0)))), some (.inl a1), some (.inl a2), some (.inl a3), some (.inl a4), some (.inl a5), some (.inl a6), some (.inr (.inr (some (5, r1))))]) (st := []) rfl rfl (k_X11_needColour d (by omega) a2 _ _ hv)
  refine e_call0 (pc := 11) (L := [some (.inr (.inr (some (0, 0)))), some (.inl a1), some (.inl a2), some (.inl a3), some (.inl a4), some (.inl a5), some (.inl a6), some (.inr (.inr (some (5, r1))))]) (st := []) (m' := m) (v := none) rfl (k_X11_needColour d (by omega) a2 _ _ hv) ?_
  show mm_E (d + 1) 10 (11, [some (.inr (.inr (some (0, 0)))), some (.inl a1), some (.inl a2), some (.inl a3), some (.inl a4), some (.inl a5), some (.inl a6), some (.inr (.inr (some (5, r1))))], [], m) (mm_th m (fun (t : Int32 × mm_M) => (.inl (some (.inl t.1)), t.2, 0, 0)) r)
  refine e_steps 1 (s' := (13, [some (.inr (.inr (some (0, 0)))), some (.inl a1), some (.inl a2), some (.inl a3), some (.inl a4), some (.inl a5), some (.inl a6), some (.inr (.inr (some (5, r1))))], [.inl a5], m)) rfl ?_
  rcases mm_bx_some hres with ⟨e9, hv, rfl⟩ | ⟨t, hv, hres⟩
  · exact e_callx (pc := 16) (L := [some (.inr (.inr (some (0, 0)))), some (.inl a1), some (.inl a2), some (.inl a3), some (.inl a4), some (.inl a5), some (.inl a6), some (.inr (.inr (some (5, r1))))]) (st := []) rfl rfl (k_X11_needDay d (by omega) a5 _ _ hv)
  refine e_call0 (pc := 16) (L := [some (.inr (.inr (some (0, 0)))), some (.inl a1), some (.inl a2), some (.inl a3), some (.inl a4), some (.inl a5), some (.inl a6), some (.inr (.inr (some (5, r1))))]) (st := []) (m' := m) (v := none) rfl (k_X11_needDay d (by omega) a5 _ _ hv) ?_
  show mm_E (d + 1) 10 (16, [some (.inr (.inr (some (0, 0)))), some (.inl a1), some (.inl a2), some (.inl a3), some (.inl a4), some (.inl a5), some (.inl a6), some (.inr (.inr (some (5, r1))))], [], m) (mm_th m (fun (t : Int32 × mm_M) => (.inl (some (.inl t.1)), t.2, 0, 0)) r)
  refine e_steps 1 (s' := (17, [some (.inr (.inr (some (0, 0)))), some (.inl a1), some (.inl a2), some (.inl a3), some (.inl a4), some (.inl a5), some (.inl a6), some (.inr (.inr (some (5, r1))))], [.inl a3], m)) rfl ?_
  rcases mm_bx_some hres with ⟨e9, hv, rfl⟩ | ⟨t, hv, hres⟩
  · exact e_callx (pc := 20) (L := [some (.inr (.inr (some (0, 0)))), some (.inl a1), some (.inl a2), some (.inl a3), some (.inl a4), some (.inl a5), some (.inl a6), some (.inr (.inr (some (5, r1))))]) (st := []) rfl rfl (k_X11_needLevel d (by omega) a3 _ _ hv)
  refine e_call0 (pc := 20) (L := [some (.inr (.inr (some (0, 0)))), some (.inl a1), some (.inl a2), some (.inl a3), some (.inl a4), some (.inl a5), some (.inl a6), some (.inr (.inr (some (5, r1))))]) (st := []) (m' := m) (v := none) rfl (k_X11_needLevel d (by omega) a3 _ _ hv) ?_
  show mm_E (d + 1) 10 (20, [some (.inr (.inr (some (0, 0)))), some (.inl a1), some (.inl a2), some (.inl a3), some (.inl a4), some (.inl a5), some (.inl a6), some (.inr (.inr (some (5, r1))))], [], m) (mm_th m (fun (t : Int32 × mm_M) => (.inl (some (.inl t.1)), t.2, 0, 0)) r)
  refine e_steps 1 (s' := (22, [some (.inr (.inr (some (0, 0)))), some (.inl a1), some (.inl a2), some (.inl a3), some (.inl a4), some (.inl a5), some (.inl a6), some (.inr (.inr (some (5, r1))))], [.inl a4], m)) rfl ?_
  rcases mm_bx_some hres with ⟨e9, hv, rfl⟩ | ⟨t, hv, hres⟩
  · exact e_callx (pc := 25) (L := [some (.inr (.inr (some (0, 0)))), some (.inl a1), some (.inl a2), some (.inl a3), some (.inl a4), some (.inl a5), some (.inl a6), some (.inr (.inr (some (5, r1))))]) (st := []) rfl rfl (k_X11_needLevel d (by omega) a4 _ _ hv)
  refine e_call0 (pc := 25) (L := [some (.inr (.inr (some (0, 0)))), some (.inl a1), some (.inl a2), some (.inl a3), some (.inl a4), some (.inl a5), some (.inl a6), some (.inr (.inr (some (5, r1))))]) (st := []) (m' := m) (v := none) rfl (k_X11_needLevel d (by omega) a4 _ _ hv) ?_
  show mm_E (d + 1) 10 (25, [some (.inr (.inr (some (0, 0)))), some (.inl a1), some (.inl a2), some (.inl a3), some (.inl a4), some (.inl a5), some (.inl a6), some (.inr (.inr (some (5, r1))))], [], m) (mm_th m (fun (t : Int32 × mm_M) => (.inl (some (.inl t.1)), t.2, 0, 0)) r)
  refine e_steps 2 (s' := (28, [some (.inr (.inr (some (0, 0)))), some (.inl a1), some (.inl a2), some (.inl a3), some (.inl a4), some (.inl a5), some (.inl a6), some (.inr (.inr (some (5, r1))))], [.inl a6, .inr (.inr (some (0, 0)))], m)) rfl ?_
  rcases mm_bx_some hres with ⟨e9, hv, rfl⟩ | ⟨t, hv, hres⟩
  · exact e_callx (pc := 31) (L := [some (.inr (.inr (some (0, 0)))), some (.inl a1), some (.inl a2), some (.inl a3), some (.inl a4), some (.inl a5), some (.inl a6), some (.inr (.inr (some (5, r1))))]) (st := []) rfl rfl (k_X11_needEvening d (by omega) a6 _ _ hv)
  refine e_call0 (pc := 31) (L := [some (.inr (.inr (some (0, 0)))), some (.inl a1), some (.inl a2), some (.inl a3), some (.inl a4), some (.inl a5), some (.inl a6), some (.inr (.inr (some (5, r1))))]) (st := []) (m' := m) (v := none) rfl (k_X11_needEvening d (by omega) a6 _ _ hv) ?_
  show mm_E (d + 1) 10 (31, [some (.inr (.inr (some (0, 0)))), some (.inl a1), some (.inl a2), some (.inl a3), some (.inl a4), some (.inl a5), some (.inl a6), some (.inr (.inr (some (5, r1))))], [], m) (mm_th m (fun (t : Int32 × mm_M) => (.inl (some (.inl t.1)), t.2, 0, 0)) r)
  refine e_steps 4 (s' := (37, [some (.inr (.inr (some (0, 0)))), some (.inl a1), some (.inl a2), some (.inl a3), some (.inl a4), some (.inl a5), some (.inl a6), some (.inr (.inr (some (5, r1))))], [.inl a6, .inl a5, .inl a1, .inr (.inr (some (0, 0)))], m)) rfl ?_
  rcases mm_bx_some hres with ⟨e9, hv, rfl⟩ | ⟨m8, hv, hres⟩
  · exact e_callx (pc := 40) (L := [some (.inr (.inr (some (0, 0)))), some (.inl a1), some (.inl a2), some (.inl a3), some (.inl a4), some (.inl a5), some (.inl a6), some (.inr (.inr (some (5, r1))))]) (st := []) rfl rfl (k_X11_showDay d (by omega) a1 a5 a6 _ _ hv)
  refine e_call0 (pc := 40) (L := [some (.inr (.inr (some (0, 0)))), some (.inl a1), some (.inl a2), some (.inl a3), some (.inl a4), some (.inl a5), some (.inl a6), some (.inr (.inr (some (5, r1))))]) (st := []) (m' := m8) (v := none) rfl (k_X11_showDay d (by omega) a1 a5 a6 _ _ hv) ?_
  show mm_E (d + 1) 10 (40, [some (.inr (.inr (some (0, 0)))), some (.inl a1), some (.inl a2), some (.inl a3), some (.inl a4), some (.inl a5), some (.inl a6), some (.inr (.inr (some (5, r1))))], [], m8) (mm_th m (fun (t : Int32 × mm_M) => (.inl (some (.inl t.1)), t.2, 0, 0)) r)
  refine e_steps 3 (s' := (45, [some (.inr (.inr (some (0, 0)))), some (.inl a1), some (.inl a2), some (.inl a3), some (.inl a4), some (.inl a5), some (.inl a6), some (.inr (.inr (some (5, r1))))], [.inr (.inr (some (0, 0))), .inr (.inr (some (4, 0)))], m8)) rfl ?_
  refine e_if (s1 := (48, [some (.inr (.inr (some (0, 0)))), some (.inl a1), some (.inl a2), some (.inl a3), some (.inl a4), some (.inl a5), some (.inl a6), some (.inr (.inr (some (5, r1))))], [.inr (.inr none), .inr (.inr (some (4, 0)))], m8)) (s2 := (48, [some (.inr (.inr (some (0, 0)))), some (.inl a1), some (.inl a2), some (.inl a3), some (.inl a4), some (.inl a5), some (.inl a6), some (.inr (.inr (some (5, r1))))], [.inr (.inr (some (2, (m8 0 0 3).toNatClampNeg))), .inr (.inr (some (4, 0)))], m8)) rfl hres (fun hc hres => ?_) (fun hc hres => ?_)
  · refine e_steps 3 (s' := (53, [some (.inr (.inr (some (0, 0)))), some (.inl a1), some (.inl a2), some (.inl a3), some (.inl a4), some (.inl a5), some (.inl a6), some (.inr (.inr (some (5, r1))))], [.inr (.inr (some (5, r1))), .inl a5, .inl a2, .inr (.inr none), .inr (.inr (some (4, 0)))], m8)) rfl ?_
    obtain ⟨r10, hv, hres⟩ := mm_b1_some hres
    refine e_call0 (pc := 56) (L := [some (.inr (.inr (some (0, 0)))), some (.inl a1), some (.inl a2), some (.inl a3), some (.inl a4), some (.inl a5), some (.inl a6), some (.inr (.inr (some (5, r1))))]) (st := [.inl a2, .inr (.inr none), .inr (.inr (some (4, 0)))]) (m' := m8) (v := some (.inl r10)) rfl (k_X11_ageOn d (by omega) a5 r1 _ _ hv) ?_
    show mm_E (d + 1) 10 (56, [some (.inr (.inr (some (0, 0)))), some (.inl a1), some (.inl a2), some (.inl a3), some (.inl a4), some (.inl a5), some (.inl a6), some (.inr (.inr (some (5, r1))))], [.inl r10, .inl a2, .inr (.inr none), .inr (.inr (some (4, 0)))], m8) (mm_th m (fun (t : Int32 × mm_M) => (.inl (some (.inl t.1)), t.2, 0, 0)) r)
    cases hres
  · refine e_let (fun (i9 : Nat) => (48, [some (.inr (.inr (some (0, 0)))), some (.inl a1), some (.inl a2), some (.inl a3), some (.inl a4), some (.inl a5), some (.inl a6), some (.inr (.inr (some (5, r1))))], [.inr (.inr (some (2, i9))), .inr (.inr (some (4, 0)))], m8)) hres (fun i9 hres => ?_)
    refine e_steps 3 (s' := (53, [some (.inr (.inr (some (0, 0)))), some (.inl a1), some (.inl a2), some (.inl a3), some (.inl a4), some (.inl a5), some (.inl a6), some (.inr (.inr (some (5, r1))))], [.inr (.inr (some (5, r1))), .inl a5, .inl a2, .inr (.inr (some (2, i9))), .inr (.inr (some (4, 0)))], m8)) rfl ?_
    obtain ⟨r11, hv, hres⟩ := mm_b1_some hres
    refine e_call0 (pc := 56) (L := [some (.inr (.inr (some (0, 0)))), some (.inl a1), some (.inl a2), some (.inl a3), some (.inl a4), some (.inl a5), some (.inl a6), some (.inr (.inr (some (5, r1))))]) (st := [.inl a2, .inr (.inr (some (2, i9))), .inr (.inr (some (4, 0)))]) (m' := m8) (v := some (.inl r11)) rfl (k_X11_ageOn d (by omega) a5 r1 _ _ hv) ?_
    show mm_E (d + 1) 10 (56, [some (.inr (.inr (some (0, 0)))), some (.inl a1), some (.inl a2), some (.inl a3), some (.inl a4), some (.inl a5), some (.inl a6), some (.inr (.inr (some (5, r1))))], [.inl r11, .inl a2, .inr (.inr (some (2, i9))), .inr (.inr (some (4, 0)))], m8) (mm_th m (fun (t : Int32 × mm_M) => (.inl (some (.inl t.1)), t.2, 0, 0)) r)
    obtain ⟨m13, hv, hres⟩ := mm_b1_some hres
    refine e_call0 (pc := 59) (L := [some (.inr (.inr (some (0, 0)))), some (.inl a1), some (.inl a2), some (.inl a3), some (.inl a4), some (.inl a5), some (.inl a6), some (.inr (.inr (some (5, r1))))]) (st := []) (m' := m13) (v := none) rfl (k_X6_weigh d (by omega) i9 a2 r11 _ _ hv) ?_
    show mm_E (d + 1) 10 (59, [some (.inr (.inr (some (0, 0)))), some (.inl a1), some (.inl a2), some (.inl a3), some (.inl a4), some (.inl a5), some (.inl a6), some (.inr (.inr (some (5, r1))))], [], m13) (mm_th m (fun (t : Int32 × mm_M) => (.inl (some (.inl t.1)), t.2, 0, 0)) r)
    refine e_steps 4 (s' := (66, [some (.inr (.inr (some (0, 0)))), some (.inl a1), some (.inl a2), some (.inl a3), some (.inl a4), some (.inl a5), some (.inl a6), some (.inr (.inr (some (5, r1))))], [.inl a4, .inl a3, .inr (.inr (some (4, 0)))], m13)) rfl ?_
    obtain ⟨r14, hv, hres⟩ := mm_b1_some hres
    refine e_call0 (pc := 69) (L := [some (.inr (.inr (some (0, 0)))), some (.inl a1), some (.inl a2), some (.inl a3), some (.inl a4), some (.inl a5), some (.inl a6), some (.inr (.inr (some (5, r1))))]) (st := []) (m' := m13) (v := some (.inl r14)) rfl (k_X6_marginOf d (by omega) a3 a4 _ _ hv) ?_
    show mm_E (d + 1) 10 (69, [some (.inr (.inr (some (0, 0)))), some (.inl a1), some (.inl a2), some (.inl a3), some (.inl a4), some (.inl a5), some (.inl a6), some (.inr (.inr (some (5, r1))))], [.inl r14], m13) (mm_th m (fun (t : Int32 × mm_M) => (.inl (some (.inl t.1)), t.2, 0, 0)) r)
    obtain rfl := Option.some.inj hres
    exact e_ret rfl rfl
/-- GlassThreads.tired(IIII)I -/
def f_X11_tired (a1 : Int32) (a2 : Int32) (a3 : Int32) (a4 : Int32) (m : mm_M) : Option (Nat ⊕ (Int32 × mm_M)) :=
(mm_bx (f_X11_strandOf a1 m) fun r1 =>
(mm_bx (f_X11_needColour a2 m) fun _ =>
(mm_bx (f_X11_needLevel a3 m) fun _ =>
(mm_bx (f_X11_needLevel a4 m) fun _ =>
mm_b1 (f_X6_show r1 m) fun m6 =>
mm_let (m6 5 r1 5) fun v7 =>
(mm_b1 (mm_loop (σ := Int32 × mm_M) (ρ := (Int32 × mm_M) ⊕ (mm_M)) (fun (s : Int32 × mm_M) => match s with
| (v9, m10) => (if 99 < v9 then (some (.inr (.inr m10)))
else (if (m10 0 0 3) = -1 then (none) else (mm_let (m10 0 0 3).toNatClampNeg fun i11 =>
mm_b1 (f_X6_weigh i11 a2 (v9 - (m10 5 r1 5)) m10) fun m13 =>
mm_b1 (f_X6_marginOf a3 a4 m13) fun r14 =>
if 0 ≤ r14 then (mm_let (v9 + 1) fun v15 =>
some (.inl (v15, m13)))
else (some (.inr (.inl (v9, m13)))))) : Option ((Int32 × mm_M) ⊕ ((Int32 × mm_M) ⊕ (mm_M))))) mm_fu (v7, m6)) fun t => match t with
| .inl (v16, m17) => some (.inr (v16, m17))
| .inr m18 => some (.inr ((-1), m18)))))))
set_option maxHeartbeats 4000000 in
set_option maxRecDepth 100000 in
theorem k_X11_tired (d : Nat) (hd : 5 ≤ d) (a1 : Int32) (a2 : Int32) (a3 : Int32) (a4 : Int32) (m : mm_M) (r : Nat ⊕ (Int32 × mm_M)) (hres : f_X11_tired a1 a2 a3 a4 m = some r) : mm_X d 11 [.inr (.inr (some (0, 0))), .inl a1, .inl a2, .inl a3, .inl a4] m (mm_th m (fun (t : Int32 × mm_M) => (.inl (some (.inl t.1)), t.2, 0, 0)) r) := by
  unfold f_X11_tired at hres
  obtain ⟨d, rfl⟩ : ∃ e, d = e + 1 := ⟨d - 1, by omega⟩
  show mm_E (d + 1) 11 (0, [some (.inr (.inr (some (0, 0)))), some (.inl a1), some (.inl a2), some (.inl a3), some (.inl a4), none, none], [], m) (mm_th m (fun (t : Int32 × mm_M) => (.inl (some (.inl t.1)), t.2, 0, 0)) r)
  refine e_steps 2 (s' := (2, [some (.inr (.inr (some (0, 0)))), some (.inl a1), some (.inl a2), some (.inl a3), some (.inl a4), none, none], [.inl a1, .inr (.inr (some (0, 0)))], m)) rfl ?_
  rcases mm_bx_some hres with ⟨e9, hv, rfl⟩ | ⟨r1, hv, hres⟩
  · exact e_callx (pc := 5) (L := [some (.inr (.inr (some (0, 0)))), some (.inl a1), some (.inl a2), some (.inl a3), some (.inl a4), none, none]) (st := []) rfl rfl (k_X11_strandOf d (by omega) a1 _ _ hv)
  refine e_call0 (pc := 5) (L := [some (.inr (.inr (some (0, 0)))), some (.inl a1), some (.inl a2), some (.inl a3), some (.inl a4), none, none]) (st := []) (m' := m) (v := some (.inr (.inr (some (5, r1))))) rfl (k_X11_strandOf d (by omega) a1 _ _ hv) ?_
  show mm_E (d + 1) 11 (5, [some (.inr (.inr (some (0, 0)))), some (.inl a1), some (.inl a2), some (.inl a3), some (.inl a4), none, none], [.inr (.inr (some (5, r1)))], m) (mm_th m (fun (t : Int32 × mm_M) => (.inl (some (.inl t.1)), t.2, 0, 0)) r)
  refine e_steps 2 (s' := (8, [some (.inr (.inr (some (0, 0)))), some (.inl a1), some (.inl a2), some (.inl a3), some (.inl a4), some (.inr (.inr (some (5, r1)))), none], [.inl a2], m)) rfl ?_
  rcases mm_bx_some hres with ⟨e9, hv, rfl⟩ | ⟨t, hv, hres⟩
  · exact e_callx (pc := 11) (L := [some (.inr (.inr (some (0, 0)))), some (.inl a1), some (.inl a2), some (.inl a3), some (.inl a4), some (.inr (.inr (some (5, r1)))), none]) (st := []) rfl rfl (k_X11_needColour d (by omega) a2 _ _ hv)
  refine e_call0 (pc := 11) (L := [some (.inr (.inr (some (0, 0)))), some (.inl a1), some (.inl a2), some (.inl a3), some (.inl a4), some (.inr (.inr (some (5, r1)))), none]) (st := []) (m' := m) (v := none) rfl (k_X11_needColour d (by omega) a2 _ _ hv) ?_
  show mm_E (d + 1) 11 (11, [some (.inr (.inr (some (0, 0)))), some (.inl a1), some (.inl a2), some (.inl a3), some (.inl a4), some (.inr (.inr (some (5, r1)))), none], [], m) (mm_th m (fun (t : Int32 × mm_M) => (.inl (some (.inl t.1)), t.2, 0, 0)) r)
  refine e_steps 1 (s' := (12, [some (.inr (.inr (some (0, 0)))), some (.inl a1), some (.inl a2), some (.inl a3), some (.inl a4), some (.inr (.inr (some (5, r1)))), none], [.inl a3], m)) rfl ?_
  rcases mm_bx_some hres with ⟨e9, hv, rfl⟩ | ⟨t, hv, hres⟩
  · exact e_callx (pc := 15) (L := [some (.inr (.inr (some (0, 0)))), some (.inl a1), some (.inl a2), some (.inl a3), some (.inl a4), some (.inr (.inr (some (5, r1)))), none]) (st := []) rfl rfl (k_X11_needLevel d (by omega) a3 _ _ hv)
  refine e_call0 (pc := 15) (L := [some (.inr (.inr (some (0, 0)))), some (.inl a1), some (.inl a2), some (.inl a3), some (.inl a4), some (.inr (.inr (some (5, r1)))), none]) (st := []) (m' := m) (v := none) rfl (k_X11_needLevel d (by omega) a3 _ _ hv) ?_
  show mm_E (d + 1) 11 (15, [some (.inr (.inr (some (0, 0)))), some (.inl a1), some (.inl a2), some (.inl a3), some (.inl a4), some (.inr (.inr (some (5, r1)))), none], [], m) (mm_th m (fun (t : Int32 × mm_M) => (.inl (some (.inl t.1)), t.2, 0, 0)) r)
  refine e_steps 1 (s' := (17, [some (.inr (.inr (some (0, 0)))), some (.inl a1), some (.inl a2), some (.inl a3), some (.inl a4), some (.inr (.inr (some (5, r1)))), none], [.inl a4], m)) rfl ?_
  rcases mm_bx_some hres with ⟨e9, hv, rfl⟩ | ⟨t, hv, hres⟩
  · exact e_callx (pc := 20) (L := [some (.inr (.inr (some (0, 0)))), some (.inl a1), some (.inl a2), some (.inl a3), some (.inl a4), some (.inr (.inr (some (5, r1)))), none]) (st := []) rfl rfl (k_X11_needLevel d (by omega) a4 _ _ hv)
  refine e_call0 (pc := 20) (L := [some (.inr (.inr (some (0, 0)))), some (.inl a1), some (.inl a2), some (.inl a3), some (.inl a4), some (.inr (.inr (some (5, r1)))), none]) (st := []) (m' := m) (v := none) rfl (k_X11_needLevel d (by omega) a4 _ _ hv) ?_
  show mm_E (d + 1) 11 (20, [some (.inr (.inr (some (0, 0)))), some (.inl a1), some (.inl a2), some (.inl a3), some (.inl a4), some (.inr (.inr (some (5, r1)))), none], [], m) (mm_th m (fun (t : Int32 × mm_M) => (.inl (some (.inl t.1)), t.2, 0, 0)) r)
  refine e_steps 3 (s' := (26, [some (.inr (.inr (some (0, 0)))), some (.inl a1), some (.inl a2), some (.inl a3), some (.inl a4), some (.inr (.inr (some (5, r1)))), none], [.inr (.inr (some (5, r1))), .inr (.inr (some (4, 0)))], m)) rfl ?_
  obtain ⟨m6, hv, hres⟩ := mm_b1_some hres
  refine e_call0 (pc := 29) (L := [some (.inr (.inr (some (0, 0)))), some (.inl a1), some (.inl a2), some (.inl a3), some (.inl a4), some (.inr (.inr (some (5, r1)))), none]) (st := []) (m' := m6) (v := none) rfl (k_X6_show d (by omega) r1 _ _ hv) ?_
  show mm_E (d + 1) 11 (29, [some (.inr (.inr (some (0, 0)))), some (.inl a1), some (.inl a2), some (.inl a3), some (.inl a4), some (.inr (.inr (some (5, r1)))), none], [], m6) (mm_th m (fun (t : Int32 × mm_M) => (.inl (some (.inl t.1)), t.2, 0, 0)) r)
  refine e_steps 3 (s' := (36, [some (.inr (.inr (some (0, 0)))), some (.inl a1), some (.inl a2), some (.inl a3), some (.inl a4), some (.inr (.inr (some (5, r1)))), some (.inl (m6 5 r1 5))], [], m6)) rfl ?_
  refine e_let (fun (v7 : Int32) => (36, [some (.inr (.inr (some (0, 0)))), some (.inl a1), some (.inl a2), some (.inl a3), some (.inl a4), some (.inr (.inr (some (5, r1)))), some (.inl v7)], [], m6)) hres (fun v7 hres => ?_)
  refine e_mask (L' := [some (.inr (.inr (some (0, 0)))), none, some (.inl a2), some (.inl a3), some (.inl a4), some (.inr (.inr (some (5, r1)))), some (.inl v7)]) rfl ?_
  refine e_loopb (φ := fun s => (36, [some (.inr (.inr (some (0, 0)))), none, some (.inl a2), some (.inl a3), some (.inl a4), some (.inr (.inr (some (5, r1)))), some (.inl s.1)], [], s.2)) (K := fun t => match t with | .inl t => mm_E (d + 1) 11 (76, [none, none, none, none, none, none, some (.inl t.1)], [], t.2) (mm_th m (fun (t : Int32 × mm_M) => (.inl (some (.inl t.1)), t.2, 0, 0)) r) | .inr t => mm_E (d + 1) 11 (85, [none, none, none, none, none, none, none], [], t) (mm_th m (fun (t : Int32 × mm_M) => (.inl (some (.inl t.1)), t.2, 0, 0)) r)) hres (fun t hres => ?_) (fun s ol8 hres hcl8 hxl8 => ?_)
  · rcases t with ⟨v16, m17⟩ | m18
    · show mm_E (d + 1) 11 (76, [none, none, none, none, none, none, some (.inl v16)], [], m17) (mm_th m (fun (t : Int32 × mm_M) => (.inl (some (.inl t.1)), t.2, 0, 0)) r)
      refine e_steps 1 (s' := (78, [none, none, none, none, none, none, some (.inl v16)], [.inl v16], m17)) rfl ?_
      obtain rfl := Option.some.inj hres
      exact e_ret rfl rfl
    · show mm_E (d + 1) 11 (85, [none, none, none, none, none, none, none], [], m18) (mm_th m (fun (t : Int32 × mm_M) => (.inl (some (.inl t.1)), t.2, 0, 0)) r)
      refine e_steps 1 (s' := (86, [none, none, none, none, none, none, none], [.inl (-1)], m18)) rfl ?_
      obtain rfl := Option.some.inj hres
      exact e_ret rfl rfl
  · obtain ⟨v9, m10⟩ := s
    show mm_E (d + 1) 11 (36, [some (.inr (.inr (some (0, 0)))), none, some (.inl a2), some (.inl a3), some (.inl a4), some (.inr (.inr (some (5, r1)))), some (.inl v9)], [], m10) (mm_th m (fun (t : Int32 × mm_M) => (.inl (some (.inl t.1)), t.2, 0, 0)) r)
    refine e_steps 2 (s' := (40, [some (.inr (.inr (some (0, 0)))), none, some (.inl a2), some (.inl a3), some (.inl a4), some (.inr (.inr (some (5, r1)))), some (.inl v9)], [.inl 99, .inl v9], m10)) rfl ?_
    refine e_if (s1 := (85, [some (.inr (.inr (some (0, 0)))), none, some (.inl a2), some (.inl a3), some (.inl a4), some (.inr (.inr (some (5, r1)))), some (.inl v9)], [], m10)) (s2 := (43, [some (.inr (.inr (some (0, 0)))), none, some (.inl a2), some (.inl a3), some (.inl a4), some (.inr (.inr (some (5, r1)))), some (.inl v9)], [], m10)) rfl hres (fun hc hres => ?_) (fun hc hres => ?_)
    · obtain rfl := Option.some.inj hres
      exact e_mask (L' := [none, none, none, none, none, none, none]) rfl (hxl8 _ rfl)
    · refine e_steps 3 (s' := (48, [some (.inr (.inr (some (0, 0)))), none, some (.inl a2), some (.inl a3), some (.inl a4), some (.inr (.inr (some (5, r1)))), some (.inl v9)], [.inr (.inr (some (0, 0))), .inr (.inr (some (4, 0)))], m10)) rfl ?_
      refine e_if (s1 := (51, [some (.inr (.inr (some (0, 0)))), none, some (.inl a2), some (.inl a3), some (.inl a4), some (.inr (.inr (some (5, r1)))), some (.inl v9)], [.inr (.inr none), .inr (.inr (some (4, 0)))], m10)) (s2 := (51, [some (.inr (.inr (some (0, 0)))), none, some (.inl a2), some (.inl a3), some (.inl a4), some (.inr (.inr (some (5, r1)))), some (.inl v9)], [.inr (.inr (some (2, (m10 0 0 3).toNatClampNeg))), .inr (.inr (some (4, 0)))], m10)) rfl hres (fun hc hres => ?_) (fun hc hres => ?_)
      · refine e_steps 5 (s' := (60, [some (.inr (.inr (some (0, 0)))), none, some (.inl a2), some (.inl a3), some (.inl a4), some (.inr (.inr (some (5, r1)))), some (.inl v9)], [.inl (v9 - (m10 5 r1 5)), .inl a2, .inr (.inr none), .inr (.inr (some (4, 0)))], m10)) rfl ?_
        cases hres
      · refine e_let (fun (i11 : Nat) => (51, [some (.inr (.inr (some (0, 0)))), none, some (.inl a2), some (.inl a3), some (.inl a4), some (.inr (.inr (some (5, r1)))), some (.inl v9)], [.inr (.inr (some (2, i11))), .inr (.inr (some (4, 0)))], m10)) hres (fun i11 hres => ?_)
        refine e_steps 5 (s' := (60, [some (.inr (.inr (some (0, 0)))), none, some (.inl a2), some (.inl a3), some (.inl a4), some (.inr (.inr (some (5, r1)))), some (.inl v9)], [.inl (v9 - (m10 5 r1 5)), .inl a2, .inr (.inr (some (2, i11))), .inr (.inr (some (4, 0)))], m10)) rfl ?_
        obtain ⟨m13, hv, hres⟩ := mm_b1_some hres
        refine e_call0 (pc := 63) (L := [some (.inr (.inr (some (0, 0)))), none, some (.inl a2), some (.inl a3), some (.inl a4), some (.inr (.inr (some (5, r1)))), some (.inl v9)]) (st := []) (m' := m13) (v := none) rfl (k_X6_weigh d (by omega) i11 a2 (v9 - (m10 5 r1 5)) _ _ hv) ?_
        show mm_E (d + 1) 11 (63, [some (.inr (.inr (some (0, 0)))), none, some (.inl a2), some (.inl a3), some (.inl a4), some (.inr (.inr (some (5, r1)))), some (.inl v9)], [], m13) (mm_th m (fun (t : Int32 × mm_M) => (.inl (some (.inl t.1)), t.2, 0, 0)) r)
        refine e_steps 4 (s' := (70, [some (.inr (.inr (some (0, 0)))), none, some (.inl a2), some (.inl a3), some (.inl a4), some (.inr (.inr (some (5, r1)))), some (.inl v9)], [.inl a4, .inl a3, .inr (.inr (some (4, 0)))], m13)) rfl ?_
        obtain ⟨r14, hv, hres⟩ := mm_b1_some hres
        refine e_call0 (pc := 73) (L := [some (.inr (.inr (some (0, 0)))), none, some (.inl a2), some (.inl a3), some (.inl a4), some (.inr (.inr (some (5, r1)))), some (.inl v9)]) (st := []) (m' := m13) (v := some (.inl r14)) rfl (k_X6_marginOf d (by omega) a3 a4 _ _ hv) ?_
        show mm_E (d + 1) 11 (73, [some (.inr (.inr (some (0, 0)))), none, some (.inl a2), some (.inl a3), some (.inl a4), some (.inr (.inr (some (5, r1)))), some (.inl v9)], [.inl r14], m13) (mm_th m (fun (t : Int32 × mm_M) => (.inl (some (.inl t.1)), t.2, 0, 0)) r)
        refine e_if (s1 := (79, [some (.inr (.inr (some (0, 0)))), none, some (.inl a2), some (.inl a3), some (.inl a4), some (.inr (.inr (some (5, r1)))), some (.inl v9)], [], m13)) (s2 := (76, [some (.inr (.inr (some (0, 0)))), none, some (.inl a2), some (.inl a3), some (.inl a4), some (.inr (.inr (some (5, r1)))), some (.inl v9)], [], m13)) rfl hres (fun hc hres => ?_) (fun hc hres => ?_)
        · refine e_steps 1 (s' := (82, [some (.inr (.inr (some (0, 0)))), none, some (.inl a2), some (.inl a3), some (.inl a4), some (.inr (.inr (some (5, r1)))), some (.inl (v9 + 1))], [], m13)) rfl ?_
          refine e_let (fun (v15 : Int32) => (82, [some (.inr (.inr (some (0, 0)))), none, some (.inl a2), some (.inl a3), some (.inl a4), some (.inr (.inr (some (5, r1)))), some (.inl v15)], [], m13)) hres (fun v15 hres => ?_)
          refine e_steps 1 (s' := (36, [some (.inr (.inr (some (0, 0)))), none, some (.inl a2), some (.inl a3), some (.inl a4), some (.inr (.inr (some (5, r1)))), some (.inl v15)], [], m13)) rfl ?_
          obtain rfl := Option.some.inj hres
          exact e_mask (L' := [some (.inr (.inr (some (0, 0)))), none, some (.inl a2), some (.inl a3), some (.inl a4), some (.inr (.inr (some (5, r1)))), some (.inl v15)]) rfl (hcl8 _ rfl)
        · obtain rfl := Option.some.inj hres
          exact e_mask (L' := [none, none, none, none, none, none, some (.inl v9)]) rfl (hxl8 _ rfl)
/-- GlassThreads.dead(I)I -/
def f_X11_dead (a1 : Int32) (m : mm_M) : Option (Nat ⊕ (Int32 × mm_M)) :=
if a1 < 0 then (some (.inl 0))
else (if a1 ≤ 99 then (mm_let (m 0 0 9) fun v1 =>
mm_let (mm_w m 0 0 9 a1) fun m2 =>
some (.inr (v1, m2)))
else (some (.inl 0)))
set_option maxHeartbeats 4000000 in
set_option maxRecDepth 100000 in
theorem k_X11_dead (d : Nat) (hd : 0 ≤ d) (a1 : Int32) (m : mm_M) (r : Nat ⊕ (Int32 × mm_M)) (hres : f_X11_dead a1 m = some r) : mm_X d 12 [.inr (.inr (some (0, 0))), .inl a1] m (mm_th m (fun (t : Int32 × mm_M) => (.inl (some (.inl t.1)), t.2, 0, 0)) r) := by
  unfold f_X11_dead at hres
  show mm_E d 12 (0, [some (.inr (.inr (some (0, 0)))), some (.inl a1), none], [], m) (mm_th m (fun (t : Int32 × mm_M) => (.inl (some (.inl t.1)), t.2, 0, 0)) r)
  refine e_steps 1 (s' := (1, [some (.inr (.inr (some (0, 0)))), some (.inl a1), none], [.inl a1], m)) rfl ?_
  refine e_if (s1 := (10, [some (.inr (.inr (some (0, 0)))), some (.inl a1), none], [], m)) (s2 := (4, [some (.inr (.inr (some (0, 0)))), some (.inl a1), none], [], m)) rfl hres (fun hc hres => ?_) (fun hc hres => ?_)
  · refine e_mask (L' := [none, none, none]) rfl ?_
    obtain rfl := Option.some.inj hres
    exact e_ret rfl rfl
  · refine e_steps 2 (s' := (7, [some (.inr (.inr (some (0, 0)))), some (.inl a1), none], [.inl 99, .inl a1], m)) rfl ?_
    refine e_if (s1 := (20, [some (.inr (.inr (some (0, 0)))), some (.inl a1), none], [], m)) (s2 := (10, [some (.inr (.inr (some (0, 0)))), some (.inl a1), none], [], m)) rfl hres (fun hc hres => ?_) (fun hc hres => ?_)
    · refine e_steps 3 (s' := (25, [some (.inr (.inr (some (0, 0)))), some (.inl a1), some (.inl (m 0 0 9))], [], m)) rfl ?_
      refine e_let (fun (v1 : Int32) => (25, [some (.inr (.inr (some (0, 0)))), some (.inl a1), some (.inl v1)], [], m)) hres (fun v1 hres => ?_)
      refine e_steps 3 (s' := (30, [some (.inr (.inr (some (0, 0)))), some (.inl a1), some (.inl v1)], [], (mm_w m 0 0 9 a1))) rfl ?_
      refine e_let (fun (m2 : mm_M) => (30, [some (.inr (.inr (some (0, 0)))), some (.inl a1), some (.inl v1)], [], m2)) hres (fun m2 hres => ?_)
      refine e_steps 1 (s' := (31, [some (.inr (.inr (some (0, 0)))), some (.inl a1), some (.inl v1)], [.inl v1], m2)) rfl ?_
      obtain rfl := Option.some.inj hres
      exact e_ret rfl rfl
    · refine e_mask (L' := [none, none, none]) rfl ?_
      obtain rfl := Option.some.inj hres
      exact e_ret rfl rfl
/-- GlassThreads.echo(IIZII)I -/
def f_X11_echo (a1 : Int32) (a2 : Int32) (a3 : Int32) (a4 : Int32) (a5 : Int32) (m : mm_M) : Option (Nat ⊕ (Int32 × mm_M)) :=
(mm_bx (f_X11_strandOf a1 m) fun r1 =>
(mm_bx (f_X11_needColour a2 m) fun _ =>
(mm_bx (f_X11_needDay a4 m) fun _ =>
(mm_bx (f_X11_needEvening a5 m) fun _ =>
(mm_bx (f_X11_showDay a1 a4 a5 m) fun m6 =>
if (m6 0 0 3) = -1 then (mm_b1 (f_X11_ageOn a4 r1 m6) fun r8 =>
none) else (mm_let (m6 0 0 3).toNatClampNeg fun i7 =>
mm_b1 (f_X11_ageOn a4 r1 m6) fun r9 =>
mm_b1 (f_X6_weigh i7 a2 r9 m6) fun m11 =>
mm_b1 (f_X5_observe 0 a3 (m11 0 0 9) m11) fun m13 =>
some (.inr ((m13 6 0 3), m13))))))))
set_option maxHeartbeats 4000000 in
set_option maxRecDepth 100000 in
theorem k_X11_echo (d : Nat) (hd : 5 ≤ d) (a1 : Int32) (a2 : Int32) (a3 : Int32) (a4 : Int32) (a5 : Int32) (m : mm_M) (r : Nat ⊕ (Int32 × mm_M)) (hres : f_X11_echo a1 a2 a3 a4 a5 m = some r) : mm_X d 13 [.inr (.inr (some (0, 0))), .inl a1, .inl a2, .inl a3, .inl a4, .inl a5] m (mm_th m (fun (t : Int32 × mm_M) => (.inl (some (.inl t.1)), t.2, 0, 0)) r) := by
  unfold f_X11_echo at hres
  obtain ⟨d, rfl⟩ : ∃ e, d = e + 1 := ⟨d - 1, by omega⟩
  show mm_E (d + 1) 13 (0, [some (.inr (.inr (some (0, 0)))), some (.inl a1), some (.inl a2), some (.inl a3), some (.inl a4), some (.inl a5), none], [], m) (mm_th m (fun (t : Int32 × mm_M) => (.inl (some (.inl t.1)), t.2, 0, 0)) r)
  refine e_steps 2 (s' := (2, [some (.inr (.inr (some (0, 0)))), some (.inl a1), some (.inl a2), some (.inl a3), some (.inl a4), some (.inl a5), none], [.inl a1, .inr (.inr (some (0, 0)))], m)) rfl ?_
  rcases mm_bx_some hres with ⟨e9, hv, rfl⟩ | ⟨r1, hv, hres⟩
  · exact e_callx (pc := 5) (L := [some (.inr (.inr (some (0, 0)))), some (.inl a1), some (.inl a2), some (.inl a3), some (.inl a4), some (.inl a5), none]) (st := []) rfl rfl (k_X11_strandOf d (by omega) a1 _ _ hv)
  refine e_call0 (pc := 5) (L := [some (.inr (.inr (some (0, 0)))), some (.inl a1), some (.inl a2), some (.inl a3), some (.inl a4), some (.inl a5), none]) (st := []) (m' := m) (v := some (.inr (.inr (some (5, r1))))) rfl (k_X11_strandOf d (by omega) a1 _ _ hv) ?_
  show mm_E (d + 1) 13 (5, [some (.inr (.inr (some (0, 0)))), some (.inl a1), some (.inl a2), some (.inl a3), some (.inl a4), some (.inl a5), none], [.inr (.inr (some (5, r1)))], m) (mm_th m (fun (t : Int32 × mm_M) => (.inl (some (.inl t.1)), t.2, 0, 0)) r)
  refine e_steps 2 (s' := (8, [some (.inr (.inr (some (0, 0)))), some (.inl a1), some (.inl a2), some (.inl a3), some (.inl a4), some (.inl a5), some (.inr (.inr (some (5, r1))))], [.inl a2], m)) rfl ?_
  rcases mm_bx_some hres with ⟨e9, hv, rfl⟩ | ⟨t, hv, hres⟩
  · exact e_callx (pc := 11) (L := [some (.inr (.inr (some (0, 0)))), some (.inl a1), some (.inl a2), some (.inl a3), some (.inl a4), some (.inl a5), some (.inr (.inr (some (5, r1))))]) (st := []) rfl rfl (k_X11_needColour d (by omega) a2 _ _ hv)
  refine e_call0 (pc := 11) (L := [some (.inr (.inr (some (0, 0)))), some (.inl a1), some (.inl a2), some (.inl a3), some (.inl a4), some (.inl a5), some (.inr (.inr (some (5, r1))))]) (st := []) (m' := m) (v := none) rfl (k_X11_needColour d (by omega) a2 _ _ hv) ?_
  show mm_E (d + 1) 13 (11, [some (.inr (.inr (some (0, 0)))), some (.inl a1), some (.inl a2), some (.inl a3), some (.inl a4), some (.inl a5), some (.inr (.inr (some (5, r1))))], [], m) (mm_th m (fun (t : Int32 × mm_M) => (.inl (some (.inl t.1)), t.2, 0, 0)) r)
  refine e_steps 1 (s' := (13, [some (.inr (.inr (some (0, 0)))), some (.inl a1), some (.inl a2), some (.inl a3), some (.inl a4), some (.inl a5), some (.inr (.inr (some (5, r1))))], [.inl a4], m)) rfl ?_
  rcases mm_bx_some hres with ⟨e9, hv, rfl⟩ | ⟨t, hv, hres⟩
  · exact e_callx (pc := 16) (L := [some (.inr (.inr (some (0, 0)))), some (.inl a1), some (.inl a2), some (.inl a3), some (.inl a4), some (.inl a5), some (.inr (.inr (some (5, r1))))]) (st := []) rfl rfl (k_X11_needDay d (by omega) a4 _ _ hv)
  refine e_call0 (pc := 16) (L := [some (.inr (.inr (some (0, 0)))), some (.inl a1), some (.inl a2), some (.inl a3), some (.inl a4), some (.inl a5), some (.inr (.inr (some (5, r1))))]) (st := []) (m' := m) (v := none) rfl (k_X11_needDay d (by omega) a4 _ _ hv) ?_
  show mm_E (d + 1) 13 (16, [some (.inr (.inr (some (0, 0)))), some (.inl a1), some (.inl a2), some (.inl a3), some (.inl a4), some (.inl a5), some (.inr (.inr (some (5, r1))))], [], m) (mm_th m (fun (t : Int32 × mm_M) => (.inl (some (.inl t.1)), t.2, 0, 0)) r)
  refine e_steps 2 (s' := (19, [some (.inr (.inr (some (0, 0)))), some (.inl a1), some (.inl a2), some (.inl a3), some (.inl a4), some (.inl a5), some (.inr (.inr (some (5, r1))))], [.inl a5, .inr (.inr (some (0, 0)))], m)) rfl ?_
  rcases mm_bx_some hres with ⟨e9, hv, rfl⟩ | ⟨t, hv, hres⟩
  · exact e_callx (pc := 22) (L := [some (.inr (.inr (some (0, 0)))), some (.inl a1), some (.inl a2), some (.inl a3), some (.inl a4), some (.inl a5), some (.inr (.inr (some (5, r1))))]) (st := []) rfl rfl (k_X11_needEvening d (by omega) a5 _ _ hv)
  refine e_call0 (pc := 22) (L := [some (.inr (.inr (some (0, 0)))), some (.inl a1), some (.inl a2), some (.inl a3), some (.inl a4), some (.inl a5), some (.inr (.inr (some (5, r1))))]) (st := []) (m' := m) (v := none) rfl (k_X11_needEvening d (by omega) a5 _ _ hv) ?_
  show mm_E (d + 1) 13 (22, [some (.inr (.inr (some (0, 0)))), some (.inl a1), some (.inl a2), some (.inl a3), some (.inl a4), some (.inl a5), some (.inr (.inr (some (5, r1))))], [], m) (mm_th m (fun (t : Int32 × mm_M) => (.inl (some (.inl t.1)), t.2, 0, 0)) r)
  refine e_steps 4 (s' := (28, [some (.inr (.inr (some (0, 0)))), some (.inl a1), some (.inl a2), some (.inl a3), some (.inl a4), some (.inl a5), some (.inr (.inr (some (5, r1))))], [.inl a5, .inl a4, .inl a1, .inr (.inr (some (0, 0)))], m)) rfl ?_
  rcases mm_bx_some hres with ⟨e9, hv, rfl⟩ | ⟨m6, hv, hres⟩
  · exact e_callx (pc := 31) (L := [some (.inr (.inr (some (0, 0)))), some (.inl a1), some (.inl a2), some (.inl a3), some (.inl a4), some (.inl a5), some (.inr (.inr (some (5, r1))))]) (st := []) rfl rfl (k_X11_showDay d (by omega) a1 a4 a5 _ _ hv)
  refine e_call0 (pc := 31) (L := [some (.inr (.inr (some (0, 0)))), some (.inl a1), some (.inl a2), some (.inl a3), some (.inl a4), some (.inl a5), some (.inr (.inr (some (5, r1))))]) (st := []) (m' := m6) (v := none) rfl (k_X11_showDay d (by omega) a1 a4 a5 _ _ hv) ?_
  show mm_E (d + 1) 13 (31, [some (.inr (.inr (some (0, 0)))), some (.inl a1), some (.inl a2), some (.inl a3), some (.inl a4), some (.inl a5), some (.inr (.inr (some (5, r1))))], [], m6) (mm_th m (fun (t : Int32 × mm_M) => (.inl (some (.inl t.1)), t.2, 0, 0)) r)
  refine e_steps 3 (s' := (36, [some (.inr (.inr (some (0, 0)))), some (.inl a1), some (.inl a2), some (.inl a3), some (.inl a4), some (.inl a5), some (.inr (.inr (some (5, r1))))], [.inr (.inr (some (0, 0))), .inr (.inr (some (4, 0)))], m6)) rfl ?_
  refine e_if (s1 := (39, [some (.inr (.inr (some (0, 0)))), some (.inl a1), some (.inl a2), some (.inl a3), some (.inl a4), some (.inl a5), some (.inr (.inr (some (5, r1))))], [.inr (.inr none), .inr (.inr (some (4, 0)))], m6)) (s2 := (39, [some (.inr (.inr (some (0, 0)))), some (.inl a1), some (.inl a2), some (.inl a3), some (.inl a4), some (.inl a5), some (.inr (.inr (some (5, r1))))], [.inr (.inr (some (2, (m6 0 0 3).toNatClampNeg))), .inr (.inr (some (4, 0)))], m6)) rfl hres (fun hc hres => ?_) (fun hc hres => ?_)
  · refine e_steps 3 (s' := (44, [some (.inr (.inr (some (0, 0)))), some (.inl a1), some (.inl a2), some (.inl a3), some (.inl a4), some (.inl a5), some (.inr (.inr (some (5, r1))))], [.inr (.inr (some (5, r1))), .inl a4, .inl a2, .inr (.inr none), .inr (.inr (some (4, 0)))], m6)) rfl ?_
    obtain ⟨r8, hv, hres⟩ := mm_b1_some hres
    refine e_call0 (pc := 47) (L := [some (.inr (.inr (some (0, 0)))), some (.inl a1), some (.inl a2), some (.inl a3), some (.inl a4), some (.inl a5), some (.inr (.inr (some (5, r1))))]) (st := [.inl a2, .inr (.inr none), .inr (.inr (some (4, 0)))]) (m' := m6) (v := some (.inl r8)) rfl (k_X11_ageOn d (by omega) a4 r1 _ _ hv) ?_
    show mm_E (d + 1) 13 (47, [some (.inr (.inr (some (0, 0)))), some (.inl a1), some (.inl a2), some (.inl a3), some (.inl a4), some (.inl a5), some (.inr (.inr (some (5, r1))))], [.inl r8, .inl a2, .inr (.inr none), .inr (.inr (some (4, 0)))], m6) (mm_th m (fun (t : Int32 × mm_M) => (.inl (some (.inl t.1)), t.2, 0, 0)) r)
    cases hres
  · refine e_let (fun (i7 : Nat) => (39, [some (.inr (.inr (some (0, 0)))), some (.inl a1), some (.inl a2), some (.inl a3), some (.inl a4), some (.inl a5), some (.inr (.inr (some (5, r1))))], [.inr (.inr (some (2, i7))), .inr (.inr (some (4, 0)))], m6)) hres (fun i7 hres => ?_)
    refine e_steps 3 (s' := (44, [some (.inr (.inr (some (0, 0)))), some (.inl a1), some (.inl a2), some (.inl a3), some (.inl a4), some (.inl a5), some (.inr (.inr (some (5, r1))))], [.inr (.inr (some (5, r1))), .inl a4, .inl a2, .inr (.inr (some (2, i7))), .inr (.inr (some (4, 0)))], m6)) rfl ?_
    obtain ⟨r9, hv, hres⟩ := mm_b1_some hres
    refine e_call0 (pc := 47) (L := [some (.inr (.inr (some (0, 0)))), some (.inl a1), some (.inl a2), some (.inl a3), some (.inl a4), some (.inl a5), some (.inr (.inr (some (5, r1))))]) (st := [.inl a2, .inr (.inr (some (2, i7))), .inr (.inr (some (4, 0)))]) (m' := m6) (v := some (.inl r9)) rfl (k_X11_ageOn d (by omega) a4 r1 _ _ hv) ?_
    show mm_E (d + 1) 13 (47, [some (.inr (.inr (some (0, 0)))), some (.inl a1), some (.inl a2), some (.inl a3), some (.inl a4), some (.inl a5), some (.inr (.inr (some (5, r1))))], [.inl r9, .inl a2, .inr (.inr (some (2, i7))), .inr (.inr (some (4, 0)))], m6) (mm_th m (fun (t : Int32 × mm_M) => (.inl (some (.inl t.1)), t.2, 0, 0)) r)
    obtain ⟨m11, hv, hres⟩ := mm_b1_some hres
    refine e_call0 (pc := 50) (L := [some (.inr (.inr (some (0, 0)))), some (.inl a1), some (.inl a2), some (.inl a3), some (.inl a4), some (.inl a5), some (.inr (.inr (some (5, r1))))]) (st := []) (m' := m11) (v := none) rfl (k_X6_weigh d (by omega) i7 a2 r9 _ _ hv) ?_
    show mm_E (d + 1) 13 (50, [some (.inr (.inr (some (0, 0)))), some (.inl a1), some (.inl a2), some (.inl a3), some (.inl a4), some (.inl a5), some (.inr (.inr (some (5, r1))))], [], m11) (mm_th m (fun (t : Int32 × mm_M) => (.inl (some (.inl t.1)), t.2, 0, 0)) r)
    refine e_steps 7 (s' := (63, [some (.inr (.inr (some (0, 0)))), some (.inl a1), some (.inl a2), some (.inl a3), some (.inl a4), some (.inl a5), some (.inr (.inr (some (5, r1))))], [.inl (m11 0 0 9), .inl a3, .inr (.inr (some (4, 0))), .inr (.inr (some (6, 0)))], m11)) rfl ?_
    obtain ⟨m13, hv, hres⟩ := mm_b1_some hres
    refine e_call0 (pc := 66) (L := [some (.inr (.inr (some (0, 0)))), some (.inl a1), some (.inl a2), some (.inl a3), some (.inl a4), some (.inl a5), some (.inr (.inr (some (5, r1))))]) (st := []) (m' := m13) (v := none) rfl (k_X5_observe d (by omega) 0 a3 (m11 0 0 9) _ _ hv) ?_
    show mm_E (d + 1) 13 (66, [some (.inr (.inr (some (0, 0)))), some (.inl a1), some (.inl a2), some (.inl a3), some (.inl a4), some (.inl a5), some (.inr (.inr (some (5, r1))))], [], m13) (mm_th m (fun (t : Int32 × mm_M) => (.inl (some (.inl t.1)), t.2, 0, 0)) r)
    refine e_steps 3 (s' := (73, [some (.inr (.inr (some (0, 0)))), some (.inl a1), some (.inl a2), some (.inl a3), some (.inl a4), some (.inl a5), some (.inr (.inr (some (5, r1))))], [.inl (m13 6 0 3)], m13)) rfl ?_
    obtain rfl := Option.some.inj hres
    exact e_ret rfl rfl
/-- GlassThreads.echoed(II)I -/
def f_X11_echoed (a1 : Int32) (a2 : Int32) (m : mm_M) : Option (Nat ⊕ (Int32)) :=
if a1 < 0 then (some (.inl 1))
else (if a1 < (m 6 0 3) then (if a2 = 0 then (if mm_in a1 49 then (
some (.inr (m 41 0 a1.toNatClampNeg))) else none)
else if a2 = 1 then (if mm_in a1 49 then (
some (.inr (m 42 0 a1.toNatClampNeg))) else none)
else if a2 = 2 then (if mm_in a1 49 then (
some (.inr (m 43 0 a1.toNatClampNeg))) else none)
else (some (.inl 1)))
else (some (.inl 1)))
set_option maxHeartbeats 4000000 in
set_option maxRecDepth 100000 in
theorem k_X11_echoed (d : Nat) (hd : 0 ≤ d) (a1 : Int32) (a2 : Int32) (m : mm_M) (r : Nat ⊕ (Int32)) (hres : f_X11_echoed a1 a2 m = some r) : mm_X d 14 [.inr (.inr (some (0, 0))), .inl a1, .inl a2] m (mm_th m (fun (t : Int32) => (.inl (some (.inl t)), m, 0, 0)) r) := by
  unfold f_X11_echoed at hres
  show mm_E d 14 (0, [some (.inr (.inr (some (0, 0)))), some (.inl a1), some (.inl a2)], [], m) (mm_th m (fun (t : Int32) => (.inl (some (.inl t)), m, 0, 0)) r)
  refine e_steps 1 (s' := (1, [some (.inr (.inr (some (0, 0)))), some (.inl a1), some (.inl a2)], [.inl a1], m)) rfl ?_
  refine e_if (s1 := (15, [some (.inr (.inr (some (0, 0)))), some (.inl a1), some (.inl a2)], [], m)) (s2 := (4, [some (.inr (.inr (some (0, 0)))), some (.inl a1), some (.inl a2)], [], m)) rfl hres (fun hc hres => ?_) (fun hc hres => ?_)
  · refine e_mask (L' := [none, none, none]) rfl ?_
    obtain rfl := Option.some.inj hres
    exact e_ret rfl rfl
  · refine e_steps 4 (s' := (12, [some (.inr (.inr (some (0, 0)))), some (.inl a1), some (.inl a2)], [.inl (m 6 0 3), .inl a1], m)) rfl ?_
    refine e_if (s1 := (25, [some (.inr (.inr (some (0, 0)))), some (.inl a1), some (.inl a2)], [], m)) (s2 := (15, [some (.inr (.inr (some (0, 0)))), some (.inl a1), some (.inl a2)], [], m)) rfl hres (fun hc hres => ?_) (fun hc hres => ?_)
    · refine e_steps 1 (s' := (26, [some (.inr (.inr (some (0, 0)))), some (.inl a1), some (.inl a2)], [.inl a2], m)) rfl ?_
      refine e_sw (c := a2 = 0) (s1 := (52, [some (.inr (.inr (some (0, 0)))), some (.inl a1), some (.inl a2)], [], m)) rfl hres (fun hc hres => ?_) (fun hc hres hst => ?_)
      · refine e_steps 4 (s' := (60, [some (.inr (.inr (some (0, 0)))), some (.inl a1), some (.inl a2)], [.inl a1, .inr (.inr (some (41, 0)))], m)) rfl ?_
        refine e_gd (s1 := (61, [some (.inr (.inr (some (0, 0)))), some (.inl a1), some (.inl a2)], [.inl (m 41 0 a1.toNatClampNeg)], m)) rfl hres (fun hc hres => ?_)
        obtain rfl := Option.some.inj hres
        exact e_ret rfl rfl
      · refine e_sw (c := a2 = 1) (s1 := (62, [some (.inr (.inr (some (0, 0)))), some (.inl a1), some (.inl a2)], [], m)) hst hres (fun hc hres => ?_) (fun hc hres hst => ?_)
        · refine e_steps 4 (s' := (70, [some (.inr (.inr (some (0, 0)))), some (.inl a1), some (.inl a2)], [.inl a1, .inr (.inr (some (42, 0)))], m)) rfl ?_
          refine e_gd (s1 := (71, [some (.inr (.inr (some (0, 0)))), some (.inl a1), some (.inl a2)], [.inl (m 42 0 a1.toNatClampNeg)], m)) rfl hres (fun hc hres => ?_)
          obtain rfl := Option.some.inj hres
          exact e_ret rfl rfl
        · refine e_sw (c := a2 = 2) (s1 := (72, [some (.inr (.inr (some (0, 0)))), some (.inl a1), some (.inl a2)], [], m)) hst hres (fun hc hres => ?_) (fun hc hres hst => ?_)
          · refine e_steps 4 (s' := (80, [some (.inr (.inr (some (0, 0)))), some (.inl a1), some (.inl a2)], [.inl a1, .inr (.inr (some (43, 0)))], m)) rfl ?_
            refine e_gd (s1 := (81, [some (.inr (.inr (some (0, 0)))), some (.inl a1), some (.inl a2)], [.inl (m 43 0 a1.toNatClampNeg)], m)) rfl hres (fun hc hres => ?_)
            obtain rfl := Option.some.inj hres
            exact e_ret rfl rfl
          · refine e_step (s' := (82, [some (.inr (.inr (some (0, 0)))), some (.inl a1), some (.inl a2)], [], m)) hst ?_
            obtain rfl := Option.some.inj hres
            exact e_ret rfl rfl
    · refine e_mask (L' := [none, none, none]) rfl ?_
      obtain rfl := Option.some.inj hres
      exact e_ret rfl rfl
/-- GlassThreads.look(I)V -/
def f_X11_look (a1 : Int32) (m : mm_M) : Option (Nat ⊕ (mm_M)) :=
(mm_bx (f_X11_strandOf a1 m) fun r1 =>
mm_b1 (f_X1_beginWith r1 m) fun m3 =>
some (.inr m3))
set_option maxHeartbeats 4000000 in
set_option maxRecDepth 100000 in
theorem k_X11_look (d : Nat) (hd : 1 ≤ d) (a1 : Int32) (m : mm_M) (r : Nat ⊕ (mm_M)) (hres : f_X11_look a1 m = some r) : mm_X d 15 [.inr (.inr (some (0, 0))), .inl a1] m (mm_th m (fun (t : mm_M) => (.inl none, t, 0, 0)) r) := by
  unfold f_X11_look at hres
  obtain ⟨d, rfl⟩ : ∃ e, d = e + 1 := ⟨d - 1, by omega⟩
  show mm_E (d + 1) 15 (0, [some (.inr (.inr (some (0, 0)))), some (.inl a1)], [], m) (mm_th m (fun (t : mm_M) => (.inl none, t, 0, 0)) r)
  refine e_steps 4 (s' := (6, [some (.inr (.inr (some (0, 0)))), some (.inl a1)], [.inl a1, .inr (.inr (some (0, 0))), .inr (.inr (some (7, 0)))], m)) rfl ?_
  rcases mm_bx_some hres with ⟨e9, hv, rfl⟩ | ⟨r1, hv, hres⟩
  · exact e_callx (pc := 9) (L := [some (.inr (.inr (some (0, 0)))), some (.inl a1)]) (st := [.inr (.inr (some (7, 0)))]) rfl rfl (k_X11_strandOf d (by omega) a1 _ _ hv)
  refine e_call0 (pc := 9) (L := [some (.inr (.inr (some (0, 0)))), some (.inl a1)]) (st := [.inr (.inr (some (7, 0)))]) (m' := m) (v := some (.inr (.inr (some (5, r1))))) rfl (k_X11_strandOf d (by omega) a1 _ _ hv) ?_
  show mm_E (d + 1) 15 (9, [some (.inr (.inr (some (0, 0)))), some (.inl a1)], [.inr (.inr (some (5, r1))), .inr (.inr (some (7, 0)))], m) (mm_th m (fun (t : mm_M) => (.inl none, t, 0, 0)) r)
  obtain ⟨m3, hv, hres⟩ := mm_b1_some hres
  refine e_call0 (pc := 12) (L := [some (.inr (.inr (some (0, 0)))), some (.inl a1)]) (st := []) (m' := m3) (v := none) rfl (k_X1_beginWith d (by omega) r1 _ _ hv) ?_
  show mm_E (d + 1) 15 (12, [some (.inr (.inr (some (0, 0)))), some (.inl a1)], [], m3) (mm_th m (fun (t : mm_M) => (.inl none, t, 0, 0)) r)
  obtain rfl := Option.some.inj hres
  exact e_ret rfl rfl
/-- GlassThreads.needLook()V -/
def f_X11_needLook  (m : mm_M) : Option (Nat ⊕ (Unit)) :=
if (m 7 0 0) = -1 then (some (.inl 1)) else (mm_let (m 7 0 0).toNatClampNeg fun i1 =>
some (.inr ()))
set_option maxHeartbeats 4000000 in
set_option maxRecDepth 100000 in
theorem k_X11_needLook (d : Nat) (hd : 0 ≤ d)  (m : mm_M) (r : Nat ⊕ (Unit)) (hres : f_X11_needLook  m = some r) : mm_X d 42 [.inr (.inr (some (0, 0)))] m (mm_th m (fun (t : Unit) => (.inl none, m, 0, 0)) r) := by
  unfold f_X11_needLook at hres
  show mm_E d 42 (0, [some (.inr (.inr (some (0, 0))))], [], m) (mm_th m (fun (t : Unit) => (.inl none, m, 0, 0)) r)
  refine e_steps 2 (s' := (4, [some (.inr (.inr (some (0, 0))))], [.inr (.inr (some (7, 0)))], m)) rfl ?_
  refine e_if (s1 := (7, [some (.inr (.inr (some (0, 0))))], [.inr (.inr none)], m)) (s2 := (7, [some (.inr (.inr (some (0, 0))))], [.inr (.inr (some (5, (m 7 0 0).toNatClampNeg)))], m)) rfl hres (fun hc hres => ?_) (fun hc hres => ?_)
  · refine e_steps 1 (s' := (10, [some (.inr (.inr (some (0, 0))))], [], m)) rfl ?_
    obtain rfl := Option.some.inj hres
    exact e_ret rfl rfl
  · refine e_let (fun (i1 : Nat) => (7, [some (.inr (.inr (some (0, 0))))], [.inr (.inr (some (5, i1)))], m)) hres (fun i1 hres => ?_)
    refine e_steps 1 (s' := (21, [some (.inr (.inr (some (0, 0))))], [], m)) rfl ?_
    obtain rfl := Option.some.inj hres
    exact e_ret rfl rfl
/-- GlassThreads.suspect(II)I -/
def f_X11_suspect (a1 : Int32) (a2 : Int32) (m : mm_M) : Option (Nat ⊕ (Int32 × mm_M)) :=
(mm_bx (f_X11_needLook m) fun _ =>
if (m 7 0 0) = -1 then (none) else (mm_let (m 7 0 0).toNatClampNeg fun i2 =>
(mm_bx (f_X11_needPart i2 a1 m) fun _ =>
if (m 7 0 0) = -1 then (none) else (mm_let (m 7 0 0).toNatClampNeg fun i4 =>
if mm_in a1 24 then (
if (m 37 i4 a1.toNatClampNeg) ≠ 0 then (some (.inr ((-1), m)))
else (if a2 < 1 then (some (.inr ((-1), m)))
else (if a2 ≤ 20000 then (mm_b2 (f_X1_accuse a1 a2 m) fun r5 m6 =>
some (.inr (r5, m6)))
else (some (.inr ((-1), m)))))) else none))))
set_option maxHeartbeats 4000000 in
set_option maxRecDepth 100000 in
theorem k_X11_suspect (d : Nat) (hd : 2 ≤ d) (a1 : Int32) (a2 : Int32) (m : mm_M) (r : Nat ⊕ (Int32 × mm_M)) (hres : f_X11_suspect a1 a2 m = some r) : mm_X d 16 [.inr (.inr (some (0, 0))), .inl a1, .inl a2] m (mm_th m (fun (t : Int32 × mm_M) => (.inl (some (.inl t.1)), t.2, 0, 0)) r) := by
  unfold f_X11_suspect at hres
  obtain ⟨d, rfl⟩ : ∃ e, d = e + 1 := ⟨d - 1, by omega⟩
  show mm_E (d + 1) 16 (0, [some (.inr (.inr (some (0, 0)))), some (.inl a1), some (.inl a2)], [], m) (mm_th m (fun (t : Int32 × mm_M) => (.inl (some (.inl t.1)), t.2, 0, 0)) r)
  refine e_steps 1 (s' := (1, [some (.inr (.inr (some (0, 0)))), some (.inl a1), some (.inl a2)], [.inr (.inr (some (0, 0)))], m)) rfl ?_
  rcases mm_bx_some hres with ⟨e9, hv, rfl⟩ | ⟨t, hv, hres⟩
  · exact e_callx (pc := 4) (L := [some (.inr (.inr (some (0, 0)))), some (.inl a1), some (.inl a2)]) (st := []) rfl rfl (k_X11_needLook d (by omega)  _ _ hv)
  refine e_call0 (pc := 4) (L := [some (.inr (.inr (some (0, 0)))), some (.inl a1), some (.inl a2)]) (st := []) (m' := m) (v := none) rfl (k_X11_needLook d (by omega)  _ _ hv) ?_
  show mm_E (d + 1) 16 (4, [some (.inr (.inr (some (0, 0)))), some (.inl a1), some (.inl a2)], [], m) (mm_th m (fun (t : Int32 × mm_M) => (.inl (some (.inl t.1)), t.2, 0, 0)) r)
  refine e_steps 2 (s' := (8, [some (.inr (.inr (some (0, 0)))), some (.inl a1), some (.inl a2)], [.inr (.inr (some (7, 0)))], m)) rfl ?_
  refine e_if (s1 := (11, [some (.inr (.inr (some (0, 0)))), some (.inl a1), some (.inl a2)], [.inr (.inr none)], m)) (s2 := (11, [some (.inr (.inr (some (0, 0)))), some (.inl a1), some (.inl a2)], [.inr (.inr (some (5, (m 7 0 0).toNatClampNeg)))], m)) rfl hres (fun hc hres => ?_) (fun hc hres => ?_)
  · refine e_steps 1 (s' := (12, [some (.inr (.inr (some (0, 0)))), some (.inl a1), some (.inl a2)], [.inl a1, .inr (.inr none)], m)) rfl ?_
    cases hres
  · refine e_let (fun (i2 : Nat) => (11, [some (.inr (.inr (some (0, 0)))), some (.inl a1), some (.inl a2)], [.inr (.inr (some (5, i2)))], m)) hres (fun i2 hres => ?_)
    refine e_steps 1 (s' := (12, [some (.inr (.inr (some (0, 0)))), some (.inl a1), some (.inl a2)], [.inl a1, .inr (.inr (some (5, i2)))], m)) rfl ?_
    rcases mm_bx_some hres with ⟨e9, hv, rfl⟩ | ⟨t, hv, hres⟩
    · exact e_callx (pc := 15) (L := [some (.inr (.inr (some (0, 0)))), some (.inl a1), some (.inl a2)]) (st := []) rfl rfl (k_X11_needPart d (by omega) i2 a1 _ _ hv)
    refine e_call0 (pc := 15) (L := [some (.inr (.inr (some (0, 0)))), some (.inl a1), some (.inl a2)]) (st := []) (m' := m) (v := none) rfl (k_X11_needPart d (by omega) i2 a1 _ _ hv) ?_
    show mm_E (d + 1) 16 (15, [some (.inr (.inr (some (0, 0)))), some (.inl a1), some (.inl a2)], [], m) (mm_th m (fun (t : Int32 × mm_M) => (.inl (some (.inl t.1)), t.2, 0, 0)) r)
    refine e_steps 2 (s' := (19, [some (.inr (.inr (some (0, 0)))), some (.inl a1), some (.inl a2)], [.inr (.inr (some (7, 0)))], m)) rfl ?_
    refine e_if (s1 := (22, [some (.inr (.inr (some (0, 0)))), some (.inl a1), some (.inl a2)], [.inr (.inr none)], m)) (s2 := (22, [some (.inr (.inr (some (0, 0)))), some (.inl a1), some (.inl a2)], [.inr (.inr (some (5, (m 7 0 0).toNatClampNeg)))], m)) rfl hres (fun hc hres => ?_) (fun hc hres => ?_)
    · cases hres
    · refine e_let (fun (i4 : Nat) => (22, [some (.inr (.inr (some (0, 0)))), some (.inl a1), some (.inl a2)], [.inr (.inr (some (5, i4)))], m)) hres (fun i4 hres => ?_)
      refine e_steps 2 (s' := (26, [some (.inr (.inr (some (0, 0)))), some (.inl a1), some (.inl a2)], [.inl a1, .inr (.inr (some (37, i4)))], m)) rfl ?_
      refine e_gd (s1 := (27, [some (.inr (.inr (some (0, 0)))), some (.inl a1), some (.inl a2)], [.inl (m 37 i4 a1.toNatClampNeg)], m)) rfl hres (fun hc hres => ?_)
      refine e_if (s1 := (42, [some (.inr (.inr (some (0, 0)))), some (.inl a1), some (.inl a2)], [], m)) (s2 := (30, [some (.inr (.inr (some (0, 0)))), some (.inl a1), some (.inl a2)], [], m)) rfl hres (fun hc hres => ?_) (fun hc hres => ?_)
      · refine e_mask (L' := [none, none, none]) rfl ?_
        refine e_steps 1 (s' := (43, [none, none, none], [.inl (-1)], m)) rfl ?_
        obtain rfl := Option.some.inj hres
        exact e_ret rfl rfl
      · refine e_steps 2 (s' := (32, [some (.inr (.inr (some (0, 0)))), some (.inl a1), some (.inl a2)], [.inl 1, .inl a2], m)) rfl ?_
        refine e_if (s1 := (42, [some (.inr (.inr (some (0, 0)))), some (.inl a1), some (.inl a2)], [], m)) (s2 := (35, [some (.inr (.inr (some (0, 0)))), some (.inl a1), some (.inl a2)], [], m)) rfl hres (fun hc hres => ?_) (fun hc hres => ?_)
        · refine e_mask (L' := [none, none, none]) rfl ?_
          refine e_steps 1 (s' := (43, [none, none, none], [.inl (-1)], m)) rfl ?_
          obtain rfl := Option.some.inj hres
          exact e_ret rfl rfl
        · refine e_steps 2 (s' := (39, [some (.inr (.inr (some (0, 0)))), some (.inl a1), some (.inl a2)], [.inl 20000, .inl a2], m)) rfl ?_
          refine e_if (s1 := (44, [some (.inr (.inr (some (0, 0)))), some (.inl a1), some (.inl a2)], [], m)) (s2 := (42, [some (.inr (.inr (some (0, 0)))), some (.inl a1), some (.inl a2)], [], m)) rfl hres (fun hc hres => ?_) (fun hc hres => ?_)
          · refine e_steps 4 (s' := (50, [some (.inr (.inr (some (0, 0)))), some (.inl a1), some (.inl a2)], [.inl a2, .inl a1, .inr (.inr (some (7, 0)))], m)) rfl ?_
            obtain ⟨r5, m6, hv, hres⟩ := mm_b2_some hres
            refine e_call0 (pc := 53) (L := [some (.inr (.inr (some (0, 0)))), some (.inl a1), some (.inl a2)]) (st := []) (m' := m6) (v := some (.inl r5)) rfl (k_X1_accuse d (by omega) a1 a2 _ _ hv) ?_
            show mm_E (d + 1) 16 (53, [some (.inr (.inr (some (0, 0)))), some (.inl a1), some (.inl a2)], [.inl r5], m6) (mm_th m (fun (t : Int32 × mm_M) => (.inl (some (.inl t.1)), t.2, 0, 0)) r)
            obtain rfl := Option.some.inj hres
            exact e_ret rfl rfl
          · refine e_mask (L' := [none, none, none]) rfl ?_
            refine e_steps 1 (s' := (43, [none, none, none], [.inl (-1)], m)) rfl ?_
            obtain rfl := Option.some.inj hres
            exact e_ret rfl rfl
/-- GlassThreads.seen(Z)Z -/
def f_X11_seen (a1 : Int32) (m : mm_M) : Option (Nat ⊕ (Int32 × mm_M)) :=
(mm_bx (f_X11_needLook m) fun _ =>
if (m 6 0 3) ≠ (-1) then (mm_b1 (f_X1_toldRow a1 m) fun r2 =>
mm_b1 (f_X5_takeOver r2 0 m) fun m4 =>
some (.inr (1, m4)))
else (some (.inr (0, m))))
set_option maxHeartbeats 4000000 in
set_option maxRecDepth 100000 in
theorem k_X11_seen (d : Nat) (hd : 2 ≤ d) (a1 : Int32) (m : mm_M) (r : Nat ⊕ (Int32 × mm_M)) (hres : f_X11_seen a1 m = some r) : mm_X d 17 [.inr (.inr (some (0, 0))), .inl a1] m (mm_th m (fun (t : Int32 × mm_M) => (.inl (some (.inl t.1)), t.2, 0, 0)) r) := by
  unfold f_X11_seen at hres
  obtain ⟨d, rfl⟩ : ∃ e, d = e + 1 := ⟨d - 1, by omega⟩
  show mm_E (d + 1) 17 (0, [some (.inr (.inr (some (0, 0)))), some (.inl a1)], [], m) (mm_th m (fun (t : Int32 × mm_M) => (.inl (some (.inl t.1)), t.2, 0, 0)) r)
  refine e_steps 1 (s' := (1, [some (.inr (.inr (some (0, 0)))), some (.inl a1)], [.inr (.inr (some (0, 0)))], m)) rfl ?_
  rcases mm_bx_some hres with ⟨e9, hv, rfl⟩ | ⟨t, hv, hres⟩
  · exact e_callx (pc := 4) (L := [some (.inr (.inr (some (0, 0)))), some (.inl a1)]) (st := []) rfl rfl (k_X11_needLook d (by omega)  _ _ hv)
  refine e_call0 (pc := 4) (L := [some (.inr (.inr (some (0, 0)))), some (.inl a1)]) (st := []) (m' := m) (v := none) rfl (k_X11_needLook d (by omega)  _ _ hv) ?_
  show mm_E (d + 1) 17 (4, [some (.inr (.inr (some (0, 0)))), some (.inl a1)], [], m) (mm_th m (fun (t : Int32 × mm_M) => (.inl (some (.inl t.1)), t.2, 0, 0)) r)
  refine e_steps 4 (s' := (12, [some (.inr (.inr (some (0, 0)))), some (.inl a1)], [.inl (-1), .inl (m 6 0 3)], m)) rfl ?_
  refine e_if (s1 := (17, [some (.inr (.inr (some (0, 0)))), some (.inl a1)], [], m)) (s2 := (15, [some (.inr (.inr (some (0, 0)))), some (.inl a1)], [], m)) rfl hres (fun hc hres => ?_) (fun hc hres => ?_)
  · refine e_steps 3 (s' := (22, [some (.inr (.inr (some (0, 0)))), some (.inl a1)], [.inl a1, .inr (.inr (some (7, 0)))], m)) rfl ?_
    obtain ⟨r2, hv, hres⟩ := mm_b1_some hres
    refine e_call0 (pc := 25) (L := [some (.inr (.inr (some (0, 0)))), some (.inl a1)]) (st := []) (m' := m) (v := some (.inr (.inr (some (6, r2))))) rfl (k_X1_toldRow d (by omega) a1 _ _ hv) ?_
    show mm_E (d + 1) 17 (25, [some (.inr (.inr (some (0, 0)))), some (.inl a1)], [.inr (.inr (some (6, r2)))], m) (mm_th m (fun (t : Int32 × mm_M) => (.inl (some (.inl t.1)), t.2, 0, 0)) r)
    refine e_steps 2 (s' := (29, [some (.inr (.inr (some (0, 0)))), some (.inl a1)], [.inr (.inr (some (6, 0))), .inr (.inr (some (6, r2)))], m)) rfl ?_
    obtain ⟨m4, hv, hres⟩ := mm_b1_some hres
    refine e_call0 (pc := 32) (L := [some (.inr (.inr (some (0, 0)))), some (.inl a1)]) (st := []) (m' := m4) (v := none) rfl (k_X5_takeOver d (by omega) r2 0 _ _ hv) ?_
    show mm_E (d + 1) 17 (32, [some (.inr (.inr (some (0, 0)))), some (.inl a1)], [], m4) (mm_th m (fun (t : Int32 × mm_M) => (.inl (some (.inl t.1)), t.2, 0, 0)) r)
    refine e_steps 1 (s' := (33, [some (.inr (.inr (some (0, 0)))), some (.inl a1)], [.inl 1], m4)) rfl ?_
    obtain rfl := Option.some.inj hres
    exact e_ret rfl rfl
  · refine e_steps 1 (s' := (16, [some (.inr (.inr (some (0, 0)))), some (.inl a1)], [.inl 0], m)) rfl ?_
    obtain rfl := Option.some.inj hres
    exact e_ret rfl rfl
/-- GlassThreads.readBack(I)I -/
def f_X11_readBack (a1 : Int32) (m : mm_M) : Option (Nat ⊕ (Int32 × mm_M)) :=
(mm_bx (f_X11_needLook m) fun _ =>
(mm_bx (f_X11_needColour a1 m) fun _ =>
if (m 7 0 0) = -1 then (none) else (mm_let (m 7 0 0).toNatClampNeg fun i3 =>
mm_b1 (f_X6_show i3 m) fun m5 =>
if (m5 0 0 3) = -1 then (none) else (mm_let (m5 0 0 3).toNatClampNeg fun i6 =>
mm_b1 (f_X6_weigh i6 a1 0 m5) fun m8 =>
mm_b2 (f_X1_search (m8 0 0 9) m8) fun r9 m10 =>
some (.inr (r9, m10))))))
set_option maxHeartbeats 4000000 in
set_option maxRecDepth 100000 in
theorem k_X11_readBack (d : Nat) (hd : 6 ≤ d) (a1 : Int32) (m : mm_M) (r : Nat ⊕ (Int32 × mm_M)) (hres : f_X11_readBack a1 m = some r) : mm_X d 18 [.inr (.inr (some (0, 0))), .inl a1] m (mm_th m (fun (t : Int32 × mm_M) => (.inl (some (.inl t.1)), t.2, 0, 0)) r) := by
  unfold f_X11_readBack at hres
  obtain ⟨d, rfl⟩ : ∃ e, d = e + 1 := ⟨d - 1, by omega⟩
  show mm_E (d + 1) 18 (0, [some (.inr (.inr (some (0, 0)))), some (.inl a1)], [], m) (mm_th m (fun (t : Int32 × mm_M) => (.inl (some (.inl t.1)), t.2, 0, 0)) r)
  refine e_steps 1 (s' := (1, [some (.inr (.inr (some (0, 0)))), some (.inl a1)], [.inr (.inr (some (0, 0)))], m)) rfl ?_
  rcases mm_bx_some hres with ⟨e9, hv, rfl⟩ | ⟨t, hv, hres⟩
  · exact e_callx (pc := 4) (L := [some (.inr (.inr (some (0, 0)))), some (.inl a1)]) (st := []) rfl rfl (k_X11_needLook d (by omega)  _ _ hv)
  refine e_call0 (pc := 4) (L := [some (.inr (.inr (some (0, 0)))), some (.inl a1)]) (st := []) (m' := m) (v := none) rfl (k_X11_needLook d (by omega)  _ _ hv) ?_
  show mm_E (d + 1) 18 (4, [some (.inr (.inr (some (0, 0)))), some (.inl a1)], [], m) (mm_th m (fun (t : Int32 × mm_M) => (.inl (some (.inl t.1)), t.2, 0, 0)) r)
  refine e_steps 1 (s' := (5, [some (.inr (.inr (some (0, 0)))), some (.inl a1)], [.inl a1], m)) rfl ?_
  rcases mm_bx_some hres with ⟨e9, hv, rfl⟩ | ⟨t, hv, hres⟩
  · exact e_callx (pc := 8) (L := [some (.inr (.inr (some (0, 0)))), some (.inl a1)]) (st := []) rfl rfl (k_X11_needColour d (by omega) a1 _ _ hv)
  refine e_call0 (pc := 8) (L := [some (.inr (.inr (some (0, 0)))), some (.inl a1)]) (st := []) (m' := m) (v := none) rfl (k_X11_needColour d (by omega) a1 _ _ hv) ?_
  show mm_E (d + 1) 18 (8, [some (.inr (.inr (some (0, 0)))), some (.inl a1)], [], m) (mm_th m (fun (t : Int32 × mm_M) => (.inl (some (.inl t.1)), t.2, 0, 0)) r)
  refine e_steps 4 (s' := (16, [some (.inr (.inr (some (0, 0)))), some (.inl a1)], [.inr (.inr (some (7, 0))), .inr (.inr (some (4, 0)))], m)) rfl ?_
  refine e_if (s1 := (19, [some (.inr (.inr (some (0, 0)))), some (.inl a1)], [.inr (.inr none), .inr (.inr (some (4, 0)))], m)) (s2 := (19, [some (.inr (.inr (some (0, 0)))), some (.inl a1)], [.inr (.inr (some (5, (m 7 0 0).toNatClampNeg))), .inr (.inr (some (4, 0)))], m)) rfl hres (fun hc hres => ?_) (fun hc hres => ?_)
  · cases hres
  · refine e_let (fun (i3 : Nat) => (19, [some (.inr (.inr (some (0, 0)))), some (.inl a1)], [.inr (.inr (some (5, i3))), .inr (.inr (some (4, 0)))], m)) hres (fun i3 hres => ?_)
    obtain ⟨m5, hv, hres⟩ := mm_b1_some hres
    refine e_call0 (pc := 22) (L := [some (.inr (.inr (some (0, 0)))), some (.inl a1)]) (st := []) (m' := m5) (v := none) rfl (k_X6_show d (by omega) i3 _ _ hv) ?_
    show mm_E (d + 1) 18 (22, [some (.inr (.inr (some (0, 0)))), some (.inl a1)], [], m5) (mm_th m (fun (t : Int32 × mm_M) => (.inl (some (.inl t.1)), t.2, 0, 0)) r)
    refine e_steps 3 (s' := (27, [some (.inr (.inr (some (0, 0)))), some (.inl a1)], [.inr (.inr (some (0, 0))), .inr (.inr (some (4, 0)))], m5)) rfl ?_
    refine e_if (s1 := (30, [some (.inr (.inr (some (0, 0)))), some (.inl a1)], [.inr (.inr none), .inr (.inr (some (4, 0)))], m5)) (s2 := (30, [some (.inr (.inr (some (0, 0)))), some (.inl a1)], [.inr (.inr (some (2, (m5 0 0 3).toNatClampNeg))), .inr (.inr (some (4, 0)))], m5)) rfl hres (fun hc hres => ?_) (fun hc hres => ?_)
    · refine e_steps 2 (s' := (32, [some (.inr (.inr (some (0, 0)))), some (.inl a1)], [.inl 0, .inl a1, .inr (.inr none), .inr (.inr (some (4, 0)))], m5)) rfl ?_
      cases hres
    · refine e_let (fun (i6 : Nat) => (30, [some (.inr (.inr (some (0, 0)))), some (.inl a1)], [.inr (.inr (some (2, i6))), .inr (.inr (some (4, 0)))], m5)) hres (fun i6 hres => ?_)
      refine e_steps 2 (s' := (32, [some (.inr (.inr (some (0, 0)))), some (.inl a1)], [.inl 0, .inl a1, .inr (.inr (some (2, i6))), .inr (.inr (some (4, 0)))], m5)) rfl ?_
      obtain ⟨m8, hv, hres⟩ := mm_b1_some hres
      refine e_call0 (pc := 35) (L := [some (.inr (.inr (some (0, 0)))), some (.inl a1)]) (st := []) (m' := m8) (v := none) rfl (k_X6_weigh d (by omega) i6 a1 0 _ _ hv) ?_
      show mm_E (d + 1) 18 (35, [some (.inr (.inr (some (0, 0)))), some (.inl a1)], [], m8) (mm_th m (fun (t : Int32 × mm_M) => (.inl (some (.inl t.1)), t.2, 0, 0)) r)
      refine e_steps 6 (s' := (47, [some (.inr (.inr (some (0, 0)))), some (.inl a1)], [.inl (m8 0 0 9), .inr (.inr (some (4, 0))), .inr (.inr (some (7, 0)))], m8)) rfl ?_
      obtain ⟨r9, m10, hv, hres⟩ := mm_b2_some hres
      refine e_call0 (pc := 50) (L := [some (.inr (.inr (some (0, 0)))), some (.inl a1)]) (st := []) (m' := m10) (v := some (.inl r9)) rfl (k_X1_search d (by omega) (m8 0 0 9) _ _ hv) ?_
      show mm_E (d + 1) 18 (50, [some (.inr (.inr (some (0, 0)))), some (.inl a1)], [.inl r9], m10) (mm_th m (fun (t : Int32 × mm_M) => (.inl (some (.inl t.1)), t.2, 0, 0)) r)
      obtain rfl := Option.some.inj hres
      exact e_ret rfl rfl
/-- GlassThreads.found(I)I -/
def f_X11_found (a1 : Int32) (m : mm_M) : Option (Nat ⊕ (Int32)) :=
if (m 7 0 7) ≠ (-1) then (if a1 = 0 then (some (.inr (m 7 0 8)))
else if a1 = 1 then (some (.inr (m 7 0 9)))
else if a1 = 2 then (some (.inr ((m 7 0 10) &&& ((m 7 0 9) ^^^ (-1)))))
else (some (.inl 1)))
else (some (.inl 1))
set_option maxHeartbeats 4000000 in
set_option maxRecDepth 100000 in
theorem k_X11_found (d : Nat) (hd : 0 ≤ d) (a1 : Int32) (m : mm_M) (r : Nat ⊕ (Int32)) (hres : f_X11_found a1 m = some r) : mm_X d 19 [.inr (.inr (some (0, 0))), .inl a1] m (mm_th m (fun (t : Int32) => (.inl (some (.inl t)), m, 0, 0)) r) := by
  unfold f_X11_found at hres
  show mm_E d 19 (0, [some (.inr (.inr (some (0, 0)))), some (.inl a1)], [], m) (mm_th m (fun (t : Int32) => (.inl (some (.inl t)), m, 0, 0)) r)
  refine e_steps 4 (s' := (8, [some (.inr (.inr (some (0, 0)))), some (.inl a1)], [.inl (-1), .inl (m 7 0 7)], m)) rfl ?_
  refine e_if (s1 := (22, [some (.inr (.inr (some (0, 0)))), some (.inl a1)], [], m)) (s2 := (11, [some (.inr (.inr (some (0, 0)))), some (.inl a1)], [], m)) rfl hres (fun hc hres => ?_) (fun hc hres => ?_)
  · refine e_steps 1 (s' := (23, [some (.inr (.inr (some (0, 0)))), some (.inl a1)], [.inl a1], m)) rfl ?_
    refine e_sw (c := a1 = 0) (s1 := (48, [some (.inr (.inr (some (0, 0)))), some (.inl a1)], [], m)) rfl hres (fun hc hres => ?_) (fun hc hres hst => ?_)
    · refine e_steps 3 (s' := (55, [some (.inr (.inr (some (0, 0)))), some (.inl a1)], [.inl (m 7 0 8)], m)) rfl ?_
      obtain rfl := Option.some.inj hres
      exact e_ret rfl rfl
    · refine e_sw (c := a1 = 1) (s1 := (56, [some (.inr (.inr (some (0, 0)))), some (.inl a1)], [], m)) hst hres (fun hc hres => ?_) (fun hc hres hst => ?_)
      · refine e_steps 3 (s' := (63, [some (.inr (.inr (some (0, 0)))), some (.inl a1)], [.inl (m 7 0 9)], m)) rfl ?_
        obtain rfl := Option.some.inj hres
        exact e_ret rfl rfl
      · refine e_sw (c := a1 = 2) (s1 := (64, [some (.inr (.inr (some (0, 0)))), some (.inl a1)], [], m)) hst hres (fun hc hres => ?_) (fun hc hres hst => ?_)
        · refine e_steps 9 (s' := (81, [some (.inr (.inr (some (0, 0)))), some (.inl a1)], [.inl ((m 7 0 10) &&& ((m 7 0 9) ^^^ (-1)))], m)) rfl ?_
          obtain rfl := Option.some.inj hres
          exact e_ret rfl rfl
        · refine e_step (s' := (82, [some (.inr (.inr (some (0, 0)))), some (.inl a1)], [], m)) hst ?_
          obtain rfl := Option.some.inj hres
          exact e_ret rfl rfl
  · obtain rfl := Option.some.inj hres
    exact e_ret rfl rfl
/-- GlassThreads.needDistance(I)V -/
def f_X11_needDistance (a0 : Int32) (m : mm_M) : Option (Nat ⊕ (Unit)) :=
if a0 < 0 then (some (.inl 0))
else (if a0 ≤ 99999 then (some (.inr ()))
else (some (.inl 0)))
set_option maxHeartbeats 4000000 in
set_option maxRecDepth 100000 in
theorem k_X11_needDistance (d : Nat) (hd : 0 ≤ d) (a0 : Int32) (m : mm_M) (r : Nat ⊕ (Unit)) (hres : f_X11_needDistance a0 m = some r) : mm_X d 49 [.inl a0] m (mm_th m (fun (t : Unit) => (.inl none, m, 0, 0)) r) := by
  unfold f_X11_needDistance at hres
  show mm_E d 49 (0, [some (.inl a0)], [], m) (mm_th m (fun (t : Unit) => (.inl none, m, 0, 0)) r)
  refine e_steps 1 (s' := (1, [some (.inl a0)], [.inl a0], m)) rfl ?_
  refine e_if (s1 := (11, [some (.inl a0)], [], m)) (s2 := (4, [some (.inl a0)], [], m)) rfl hres (fun hc hres => ?_) (fun hc hres => ?_)
  · refine e_mask (L' := [none]) rfl ?_
    obtain rfl := Option.some.inj hres
    exact e_ret rfl rfl
  · refine e_steps 2 (s' := (8, [some (.inl a0)], [.inl 99999, .inl a0], m)) rfl ?_
    refine e_if (s1 := (22, [some (.inl a0)], [], m)) (s2 := (11, [some (.inl a0)], [], m)) rfl hres (fun hc hres => ?_) (fun hc hres => ?_)
    · obtain rfl := Option.some.inj hres
      exact e_ret rfl rfl
    · refine e_mask (L' := [none]) rfl ?_
      obtain rfl := Option.some.inj hres
      exact e_ret rfl rfl
/-- GlassThreads.needSlack(II)V -/
def f_X11_needSlack (a0 : Int32) (a1 : Int32) (m : mm_M) : Option (Nat ⊕ (Unit)) :=
if a0 < 0 then (some (.inl 0))
else (if 500 < a1 then (some (.inl 0))
else (if a0 ≤ a1 then (some (.inr ()))
else (some (.inl 0))))
set_option maxHeartbeats 4000000 in
set_option maxRecDepth 100000 in
theorem k_X11_needSlack (d : Nat) (hd : 0 ≤ d) (a0 : Int32) (a1 : Int32) (m : mm_M) (r : Nat ⊕ (Unit)) (hres : f_X11_needSlack a0 a1 m = some r) : mm_X d 50 [.inl a0, .inl a1] m (mm_th m (fun (t : Unit) => (.inl none, m, 0, 0)) r) := by
  unfold f_X11_needSlack at hres
  show mm_E d 50 (0, [some (.inl a0), some (.inl a1)], [], m) (mm_th m (fun (t : Unit) => (.inl none, m, 0, 0)) r)
  refine e_steps 1 (s' := (1, [some (.inl a0), some (.inl a1)], [.inl a0], m)) rfl ?_
  refine e_if (s1 := (16, [some (.inl a0), some (.inl a1)], [], m)) (s2 := (4, [some (.inl a0), some (.inl a1)], [], m)) rfl hres (fun hc hres => ?_) (fun hc hres => ?_)
  · refine e_mask (L' := [none, none]) rfl ?_
    obtain rfl := Option.some.inj hres
    exact e_ret rfl rfl
  · refine e_steps 2 (s' := (8, [some (.inl a0), some (.inl a1)], [.inl 500, .inl a1], m)) rfl ?_
    refine e_if (s1 := (16, [some (.inl a0), some (.inl a1)], [], m)) (s2 := (11, [some (.inl a0), some (.inl a1)], [], m)) rfl hres (fun hc hres => ?_) (fun hc hres => ?_)
    · refine e_mask (L' := [none, none]) rfl ?_
      obtain rfl := Option.some.inj hres
      exact e_ret rfl rfl
    · refine e_steps 2 (s' := (13, [some (.inl a0), some (.inl a1)], [.inl a1, .inl a0], m)) rfl ?_
      refine e_if (s1 := (27, [some (.inl a0), some (.inl a1)], [], m)) (s2 := (16, [some (.inl a0), some (.inl a1)], [], m)) rfl hres (fun hc hres => ?_) (fun hc hres => ?_)
      · obtain rfl := Option.some.inj hres
        exact e_ret rfl rfl
      · refine e_mask (L' := [none, none]) rfl ?_
        obtain rfl := Option.some.inj hres
        exact e_ret rfl rfl
/-- GlassThreads.needSide(I)V -/
def f_X11_needSide (a0 : Int32) (m : mm_M) : Option (Nat ⊕ (Unit)) :=
if a0 = 0 then (some (.inr ()))
else (if a0 = 1 then (some (.inr ()))
else (some (.inl 1)))
set_option maxHeartbeats 4000000 in
set_option maxRecDepth 100000 in
theorem k_X11_needSide (d : Nat) (hd : 0 ≤ d) (a0 : Int32) (m : mm_M) (r : Nat ⊕ (Unit)) (hres : f_X11_needSide a0 m = some r) : mm_X d 47 [.inl a0] m (mm_th m (fun (t : Unit) => (.inl none, m, 0, 0)) r) := by
  unfold f_X11_needSide at hres
  show mm_E d 47 (0, [some (.inl a0)], [], m) (mm_th m (fun (t : Unit) => (.inl none, m, 0, 0)) r)
  refine e_steps 1 (s' := (1, [some (.inl a0)], [.inl a0], m)) rfl ?_
  refine e_if (s1 := (20, [some (.inl a0)], [], m)) (s2 := (4, [some (.inl a0)], [], m)) rfl hres (fun hc hres => ?_) (fun hc hres => ?_)
  · refine e_mask (L' := [none]) rfl ?_
    obtain rfl := Option.some.inj hres
    exact e_ret rfl rfl
  · refine e_steps 2 (s' := (6, [some (.inl a0)], [.inl 1, .inl a0], m)) rfl ?_
    refine e_if (s1 := (20, [some (.inl a0)], [], m)) (s2 := (9, [some (.inl a0)], [], m)) rfl hres (fun hc hres => ?_) (fun hc hres => ?_)
    · refine e_mask (L' := [none]) rfl ?_
      obtain rfl := Option.some.inj hres
      exact e_ret rfl rfl
    · obtain rfl := Option.some.inj hres
      exact e_ret rfl rfl
/-- GlassThreads.groundEnd(II)I -/
def f_X11_groundEnd (a0 : Int32) (a1 : Int32) (m : mm_M) : Option (Int32) :=
mm_let (1000 + a1) fun v1 =>
if v1 = 0 then none else (
some ((((a0 * 1000) + v1) - 1) / v1))
set_option maxHeartbeats 4000000 in
set_option maxRecDepth 100000 in
theorem k_X11_groundEnd (d : Nat) (hd : 0 ≤ d) (a0 : Int32) (a1 : Int32) (m : mm_M) (r : Int32) (hres : f_X11_groundEnd a0 a1 m = some r) : mm_X d 55 [.inl a0, .inl a1] m (.inl (some (.inl r)), m, 0, 0) := by
  unfold f_X11_groundEnd at hres
  show mm_E d 55 (0, [some (.inl a0), some (.inl a1), none], [], m) (.inl (some (.inl r)), m, 0, 0)
  refine e_steps 4 (s' := (6, [some (.inl a0), some (.inl a1), some (.inl (1000 + a1))], [], m)) rfl ?_
  refine e_let (fun (v1 : Int32) => (6, [some (.inl a0), some (.inl a1), some (.inl v1)], [], m)) hres (fun v1 hres => ?_)
  refine e_steps 8 (s' := (16, [some (.inl a0), some (.inl a1), some (.inl v1)], [.inl v1, .inl (((a0 * 1000) + v1) - 1)], m)) rfl ?_
  refine e_gn (s1 := (17, [some (.inl a0), some (.inl a1), some (.inl v1)], [.inl ((((a0 * 1000) + v1) - 1) / v1)], m)) rfl hres (fun hc hres => ?_)
  obtain rfl := Option.some.inj hres
  exact e_ret rfl rfl
/-- GlassThreads.groundBegin(II)I -/
def f_X11_groundBegin (a0 : Int32) (a1 : Int32) (m : mm_M) : Option (Int32) :=
if (1000 + a1) = 0 then none else (
some ((a0 * 1000) / (1000 + a1)))
set_option maxHeartbeats 4000000 in
set_option maxRecDepth 100000 in
theorem k_X11_groundBegin (d : Nat) (hd : 0 ≤ d) (a0 : Int32) (a1 : Int32) (m : mm_M) (r : Int32) (hres : f_X11_groundBegin a0 a1 m = some r) : mm_X d 54 [.inl a0, .inl a1] m (.inl (some (.inl r)), m, 0, 0) := by
  unfold f_X11_groundBegin at hres
  show mm_E d 54 (0, [some (.inl a0), some (.inl a1)], [], m) (.inl (some (.inl r)), m, 0, 0)
  refine e_steps 6 (s' := (10, [some (.inl a0), some (.inl a1)], [.inl (1000 + a1), .inl (a0 * 1000)], m)) rfl ?_
  refine e_gn (s1 := (11, [some (.inl a0), some (.inl a1)], [.inl ((a0 * 1000) / (1000 + a1))], m)) rfl hres (fun hc hres => ?_)
  obtain rfl := Option.some.inj hres
  exact e_ret rfl rfl
/-- GlassThreads.dig(IIII)I -/
def f_X11_dig (a1 : Int32) (a2 : Int32) (a3 : Int32) (a4 : Int32) (m : mm_M) : Option (Nat ⊕ (Int32)) :=
(mm_bx (f_X11_needDistance a1 m) fun _ =>
(mm_bx (f_X11_needSlack a2 a3 m) fun _ =>
(mm_bx (f_X11_needSide a4 m) fun _ =>
if a4 ≠ 0 then (mm_b1 (f_X11_groundEnd a1 a2 m) fun r4 =>
some (.inr r4))
else (mm_b1 (f_X11_groundBegin a1 a3 m) fun r5 =>
some (.inr r5)))))
set_option maxHeartbeats 4000000 in
set_option maxRecDepth 100000 in
theorem k_X11_dig (d : Nat) (hd : 1 ≤ d) (a1 : Int32) (a2 : Int32) (a3 : Int32) (a4 : Int32) (m : mm_M) (r : Nat ⊕ (Int32)) (hres : f_X11_dig a1 a2 a3 a4 m = some r) : mm_X d 20 [.inr (.inr (some (0, 0))), .inl a1, .inl a2, .inl a3, .inl a4] m (mm_th m (fun (t : Int32) => (.inl (some (.inl t)), m, 0, 0)) r) := by
  unfold f_X11_dig at hres
  obtain ⟨d, rfl⟩ : ∃ e, d = e + 1 := ⟨d - 1, by omega⟩
  show mm_E (d + 1) 20 (0, [some (.inr (.inr (some (0, 0)))), some (.inl a1), some (.inl a2), some (.inl a3), some (.inl a4)], [], m) (mm_th m (fun (t : Int32) => (.inl (some (.inl t)), m, 0, 0)) r)
  refine e_steps 1 (s' := (1, [some (.inr (.inr (some (0, 0)))), some (.inl a1), some (.inl a2), some (.inl a3), some (.inl a4)], [.inl a1], m)) rfl ?_
  rcases mm_bx_some hres with ⟨e9, hv, rfl⟩ | ⟨t, hv, hres⟩
  · exact e_callx (pc := 4) (L := [some (.inr (.inr (some (0, 0)))), some (.inl a1), some (.inl a2), some (.inl a3), some (.inl a4)]) (st := []) rfl rfl (k_X11_needDistance d (by omega) a1 _ _ hv)
  refine e_call0 (pc := 4) (L := [some (.inr (.inr (some (0, 0)))), some (.inl a1), some (.inl a2), some (.inl a3), some (.inl a4)]) (st := []) (m' := m) (v := none) rfl (k_X11_needDistance d (by omega) a1 _ _ hv) ?_
  show mm_E (d + 1) 20 (4, [some (.inr (.inr (some (0, 0)))), some (.inl a1), some (.inl a2), some (.inl a3), some (.inl a4)], [], m) (mm_th m (fun (t : Int32) => (.inl (some (.inl t)), m, 0, 0)) r)
  refine e_steps 2 (s' := (6, [some (.inr (.inr (some (0, 0)))), some (.inl a1), some (.inl a2), some (.inl a3), some (.inl a4)], [.inl a3, .inl a2], m)) rfl ?_
  rcases mm_bx_some hres with ⟨e9, hv, rfl⟩ | ⟨t, hv, hres⟩
  · exact e_callx (pc := 9) (L := [some (.inr (.inr (some (0, 0)))), some (.inl a1), some (.inl a2), some (.inl a3), some (.inl a4)]) (st := []) rfl rfl (k_X11_needSlack d (by omega) a2 a3 _ _ hv)
  refine e_call0 (pc := 9) (L := [some (.inr (.inr (some (0, 0)))), some (.inl a1), some (.inl a2), some (.inl a3), some (.inl a4)]) (st := []) (m' := m) (v := none) rfl (k_X11_needSlack d (by omega) a2 a3 _ _ hv) ?_
  show mm_E (d + 1) 20 (9, [some (.inr (.inr (some (0, 0)))), some (.inl a1), some (.inl a2), some (.inl a3), some (.inl a4)], [], m) (mm_th m (fun (t : Int32) => (.inl (some (.inl t)), m, 0, 0)) r)
  refine e_steps 1 (s' := (11, [some (.inr (.inr (some (0, 0)))), some (.inl a1), some (.inl a2), some (.inl a3), some (.inl a4)], [.inl a4], m)) rfl ?_
  rcases mm_bx_some hres with ⟨e9, hv, rfl⟩ | ⟨t, hv, hres⟩
  · exact e_callx (pc := 14) (L := [some (.inr (.inr (some (0, 0)))), some (.inl a1), some (.inl a2), some (.inl a3), some (.inl a4)]) (st := []) rfl rfl (k_X11_needSide d (by omega) a4 _ _ hv)
  refine e_call0 (pc := 14) (L := [some (.inr (.inr (some (0, 0)))), some (.inl a1), some (.inl a2), some (.inl a3), some (.inl a4)]) (st := []) (m' := m) (v := none) rfl (k_X11_needSide d (by omega) a4 _ _ hv) ?_
  show mm_E (d + 1) 20 (14, [some (.inr (.inr (some (0, 0)))), some (.inl a1), some (.inl a2), some (.inl a3), some (.inl a4)], [], m) (mm_th m (fun (t : Int32) => (.inl (some (.inl t)), m, 0, 0)) r)
  refine e_steps 1 (s' := (16, [some (.inr (.inr (some (0, 0)))), some (.inl a1), some (.inl a2), some (.inl a3), some (.inl a4)], [.inl a4], m)) rfl ?_
  refine e_if (s1 := (27, [some (.inr (.inr (some (0, 0)))), some (.inl a1), some (.inl a2), some (.inl a3), some (.inl a4)], [], m)) (s2 := (19, [some (.inr (.inr (some (0, 0)))), some (.inl a1), some (.inl a2), some (.inl a3), some (.inl a4)], [], m)) rfl hres (fun hc hres => ?_) (fun hc hres => ?_)
  · refine e_steps 2 (s' := (29, [some (.inr (.inr (some (0, 0)))), some (.inl a1), some (.inl a2), some (.inl a3), some (.inl a4)], [.inl a2, .inl a1], m)) rfl ?_
    obtain ⟨r4, hv, hres⟩ := mm_b1_some hres
    refine e_call0 (pc := 32) (L := [some (.inr (.inr (some (0, 0)))), some (.inl a1), some (.inl a2), some (.inl a3), some (.inl a4)]) (st := []) (m' := m) (v := some (.inl r4)) rfl (k_X11_groundEnd d (by omega) a1 a2 _ _ hv) ?_
    show mm_E (d + 1) 20 (32, [some (.inr (.inr (some (0, 0)))), some (.inl a1), some (.inl a2), some (.inl a3), some (.inl a4)], [.inl r4], m) (mm_th m (fun (t : Int32) => (.inl (some (.inl t)), m, 0, 0)) r)
    refine e_mask (L' := [none, none, none, none, none]) rfl ?_
    obtain rfl := Option.some.inj hres
    exact e_ret rfl rfl
  · refine e_steps 2 (s' := (21, [some (.inr (.inr (some (0, 0)))), some (.inl a1), some (.inl a2), some (.inl a3), some (.inl a4)], [.inl a3, .inl a1], m)) rfl ?_
    obtain ⟨r5, hv, hres⟩ := mm_b1_some hres
    refine e_call0 (pc := 24) (L := [some (.inr (.inr (some (0, 0)))), some (.inl a1), some (.inl a2), some (.inl a3), some (.inl a4)]) (st := []) (m' := m) (v := some (.inl r5)) rfl (k_X11_groundBegin d (by omega) a1 a3 _ _ hv) ?_
    show mm_E (d + 1) 20 (24, [some (.inr (.inr (some (0, 0)))), some (.inl a1), some (.inl a2), some (.inl a3), some (.inl a4)], [.inl r5], m) (mm_th m (fun (t : Int32) => (.inl (some (.inl t)), m, 0, 0)) r)
    refine e_steps 1 (s' := (32, [some (.inr (.inr (some (0, 0)))), some (.inl a1), some (.inl a2), some (.inl a3), some (.inl a4)], [.inl r5], m)) rfl ?_
    refine e_mask (L' := [none, none, none, none, none]) rfl ?_
    obtain rfl := Option.some.inj hres
    exact e_ret rfl rfl
/-- GlassThreads.both(IIIIII)I -/
def f_X11_both (a1 : Int32) (a2 : Int32) (a3 : Int32) (a4 : Int32) (a5 : Int32) (a6 : Int32) (m : mm_M) : Option (Nat ⊕ (Int32)) :=
(mm_bx (f_X11_needDistance a1 m) fun _ =>
(mm_bx (f_X11_needDistance a2 m) fun _ =>
(mm_bx (f_X11_needDistance a3 m) fun _ =>
(mm_bx (f_X11_needSlack a4 a5 m) fun _ =>
(mm_bx (f_X11_needSide a6 m) fun _ =>
mm_b1 (f_X11_groundBegin a1 a5 m) fun r6 =>
mm_b1 (f_X11_groundEnd a2 a4 m) fun r7 =>
mm_let (mm_max r6 (a3 - r7)) fun v8 =>
mm_b1 (f_X11_groundEnd a1 a4 m) fun r9 =>
mm_b1 (f_X11_groundBegin a2 a5 m) fun r10 =>
mm_let (mm_min r9 (a3 - r10)) fun v11 =>
if v8 ≤ v11 then (if a6 ≠ 0 then (some (.inr v11))
else (some (.inr v8)))
else (some (.inr (-1))))))))
set_option maxHeartbeats 4000000 in
set_option maxRecDepth 100000 in
theorem k_X11_both (d : Nat) (hd : 1 ≤ d) (a1 : Int32) (a2 : Int32) (a3 : Int32) (a4 : Int32) (a5 : Int32) (a6 : Int32) (m : mm_M) (r : Nat ⊕ (Int32)) (hres : f_X11_both a1 a2 a3 a4 a5 a6 m = some r) : mm_X d 21 [.inr (.inr (some (0, 0))), .inl a1, .inl a2, .inl a3, .inl a4, .inl a5, .inl a6] m (mm_th m (fun (t : Int32) => (.inl (some (.inl t)), m, 0, 0)) r) := by
  unfold f_X11_both at hres
  obtain ⟨d, rfl⟩ : ∃ e, d = e + 1 := ⟨d - 1, by omega⟩
  show mm_E (d + 1) 21 (0, [some (.inr (.inr (some (0, 0)))), some (.inl a1), some (.inl a2), some (.inl a3), some (.inl a4), some (.inl a5), some (.inl a6), none, none], [], m) (mm_th m (fun (t : Int32) => (.inl (some (.inl t)), m, 0, 0)) r)
  refine e_steps 1 (s' := (1, [some (.inr (.inr (some (0, 0)))), some (.inl a1), some (.inl a2), some (.inl a3), some (.inl a4), some (.inl a5), some (.inl a6), none, none], [.inl a1], m)) rfl ?_
  rcases mm_bx_some hres with ⟨e9, hv, rfl⟩ | ⟨t, hv, hres⟩
  · exact e_callx (pc := 4) (L := [some (.inr (.inr (some (0, 0)))), some (.inl a1), some (.inl a2), some (.inl a3), some (.inl a4), some (.inl a5), some (.inl a6), none, none]) (st := []) rfl rfl (k_X11_needDistance d (by omega) a1 _ _ hv)
  refine e_call0 (pc := 4) (L := [some (.inr (.inr (some (0, 0)))), some (.inl a1), some (.inl a2), some (.inl a3), some (.inl a4), some (.inl a5), some (.inl a6), none, none]) (st := []) (m' := m) (v := none) rfl (k_X11_needDistance d (by omega) a1 _ _ hv) ?_
  show mm_E (d + 1) 21 (4, [some (.inr (.inr (some (0, 0)))), some (.inl a1), some (.inl a2), some (.inl a3), some (.inl a4), some (.inl a5), some (.inl a6), none, none], [], m) (mm_th m (fun (t : Int32) => (.inl (some (.inl t)), m, 0, 0)) r)
  refine e_steps 1 (s' := (5, [some (.inr (.inr (some (0, 0)))), some (.inl a1), some (.inl a2), some (.inl a3), some (.inl a4), some (.inl a5), some (.inl a6), none, none], [.inl a2], m)) rfl ?_
  rcases mm_bx_some hres with ⟨e9, hv, rfl⟩ | ⟨t, hv, hres⟩
  · exact e_callx (pc := 8) (L := [some (.inr (.inr (some (0, 0)))), some (.inl a1), some (.inl a2), some (.inl a3), some (.inl a4), some (.inl a5), some (.inl a6), none, none]) (st := []) rfl rfl (k_X11_needDistance d (by omega) a2 _ _ hv)
  refine e_call0 (pc := 8) (L := [some (.inr (.inr (some (0, 0)))), some (.inl a1), some (.inl a2), some (.inl a3), some (.inl a4), some (.inl a5), some (.inl a6), none, none]) (st := []) (m' := m) (v := none) rfl (k_X11_needDistance d (by omega) a2 _ _ hv) ?_
  show mm_E (d + 1) 21 (8, [some (.inr (.inr (some (0, 0)))), some (.inl a1), some (.inl a2), some (.inl a3), some (.inl a4), some (.inl a5), some (.inl a6), none, none], [], m) (mm_th m (fun (t : Int32) => (.inl (some (.inl t)), m, 0, 0)) r)
  refine e_steps 1 (s' := (9, [some (.inr (.inr (some (0, 0)))), some (.inl a1), some (.inl a2), some (.inl a3), some (.inl a4), some (.inl a5), some (.inl a6), none, none], [.inl a3], m)) rfl ?_
  rcases mm_bx_some hres with ⟨e9, hv, rfl⟩ | ⟨t, hv, hres⟩
  · exact e_callx (pc := 12) (L := [some (.inr (.inr (some (0, 0)))), some (.inl a1), some (.inl a2), some (.inl a3), some (.inl a4), some (.inl a5), some (.inl a6), none, none]) (st := []) rfl rfl (k_X11_needDistance d (by omega) a3 _ _ hv)
  refine e_call0 (pc := 12) (L := [some (.inr (.inr (some (0, 0)))), some (.inl a1), some (.inl a2), some (.inl a3), some (.inl a4), some (.inl a5), some (.inl a6), none, none]) (st := []) (m' := m) (v := none) rfl (k_X11_needDistance d (by omega) a3 _ _ hv) ?_
  show mm_E (d + 1) 21 (12, [some (.inr (.inr (some (0, 0)))), some (.inl a1), some (.inl a2), some (.inl a3), some (.inl a4), some (.inl a5), some (.inl a6), none, none], [], m) (mm_th m (fun (t : Int32) => (.inl (some (.inl t)), m, 0, 0)) r)
  refine e_steps 2 (s' := (16, [some (.inr (.inr (some (0, 0)))), some (.inl a1), some (.inl a2), some (.inl a3), some (.inl a4), some (.inl a5), some (.inl a6), none, none], [.inl a5, .inl a4], m)) rfl ?_
  rcases mm_bx_some hres with ⟨e9, hv, rfl⟩ | ⟨t, hv, hres⟩
  · exact e_callx (pc := 19) (L := [some (.inr (.inr (some (0, 0)))), some (.inl a1), some (.inl a2), some (.inl a3), some (.inl a4), some (.inl a5), some (.inl a6), none, none]) (st := []) rfl rfl (k_X11_needSlack d (by omega) a4 a5 _ _ hv)
  refine e_call0 (pc := 19) (L := [some (.inr (.inr (some (0, 0)))), some (.inl a1), some (.inl a2), some (.inl a3), some (.inl a4), some (.inl a5), some (.inl a6), none, none]) (st := []) (m' := m) (v := none) rfl (k_X11_needSlack d (by omega) a4 a5 _ _ hv) ?_
  show mm_E (d + 1) 21 (19, [some (.inr (.inr (some (0, 0)))), some (.inl a1), some (.inl a2), some (.inl a3), some (.inl a4), some (.inl a5), some (.inl a6), none, none], [], m) (mm_th m (fun (t : Int32) => (.inl (some (.inl t)), m, 0, 0)) r)
  refine e_steps 1 (s' := (21, [some (.inr (.inr (some (0, 0)))), some (.inl a1), some (.inl a2), some (.inl a3), some (.inl a4), some (.inl a5), some (.inl a6), none, none], [.inl a6], m)) rfl ?_
  rcases mm_bx_some hres with ⟨e9, hv, rfl⟩ | ⟨t, hv, hres⟩
  · exact e_callx (pc := 24) (L := [some (.inr (.inr (some (0, 0)))), some (.inl a1), some (.inl a2), some (.inl a3), some (.inl a4), some (.inl a5), some (.inl a6), none, none]) (st := []) rfl rfl (k_X11_needSide d (by omega) a6 _ _ hv)
  refine e_call0 (pc := 24) (L := [some (.inr (.inr (some (0, 0)))), some (.inl a1), some (.inl a2), some (.inl a3), some (.inl a4), some (.inl a5), some (.inl a6), none, none]) (st := []) (m' := m) (v := none) rfl (k_X11_needSide d (by omega) a6 _ _ hv) ?_
  show mm_E (d + 1) 21 (24, [some (.inr (.inr (some (0, 0)))), some (.inl a1), some (.inl a2), some (.inl a3), some (.inl a4), some (.inl a5), some (.inl a6), none, none], [], m) (mm_th m (fun (t : Int32) => (.inl (some (.inl t)), m, 0, 0)) r)
  refine e_steps 2 (s' := (27, [some (.inr (.inr (some (0, 0)))), some (.inl a1), some (.inl a2), some (.inl a3), some (.inl a4), some (.inl a5), some (.inl a6), none, none], [.inl a5, .inl a1], m)) rfl ?_
  obtain ⟨r6, hv, hres⟩ := mm_b1_some hres
  refine e_call0 (pc := 30) (L := [some (.inr (.inr (some (0, 0)))), some (.inl a1), some (.inl a2), some (.inl a3), some (.inl a4), some (.inl a5), some (.inl a6), none, none]) (st := []) (m' := m) (v := some (.inl r6)) rfl (k_X11_groundBegin d (by omega) a1 a5 _ _ hv) ?_
  show mm_E (d + 1) 21 (30, [some (.inr (.inr (some (0, 0)))), some (.inl a1), some (.inl a2), some (.inl a3), some (.inl a4), some (.inl a5), some (.inl a6), none, none], [.inl r6], m) (mm_th m (fun (t : Int32) => (.inl (some (.inl t)), m, 0, 0)) r)
  refine e_steps 3 (s' := (34, [some (.inr (.inr (some (0, 0)))), some (.inl a1), some (.inl a2), some (.inl a3), some (.inl a4), some (.inl a5), some (.inl a6), none, none], [.inl a4, .inl a2, .inl a3, .inl r6], m)) rfl ?_
  obtain ⟨r7, hv, hres⟩ := mm_b1_some hres
  refine e_call0 (pc := 37) (L := [some (.inr (.inr (some (0, 0)))), some (.inl a1), some (.inl a2), some (.inl a3), some (.inl a4), some (.inl a5), some (.inl a6), none, none]) (st := [.inl a3, .inl r6]) (m' := m) (v := some (.inl r7)) rfl (k_X11_groundEnd d (by omega) a2 a4 _ _ hv) ?_
  show mm_E (d + 1) 21 (37, [some (.inr (.inr (some (0, 0)))), some (.inl a1), some (.inl a2), some (.inl a3), some (.inl a4), some (.inl a5), some (.inl a6), none, none], [.inl r7, .inl a3, .inl r6], m) (mm_th m (fun (t : Int32) => (.inl (some (.inl t)), m, 0, 0)) r)
  refine e_steps 3 (s' := (43, [some (.inr (.inr (some (0, 0)))), some (.inl a1), some (.inl a2), some (.inl a3), some (.inl a4), some (.inl a5), some (.inl a6), some (.inl (mm_max r6 (a3 - r7))), none], [], m)) rfl ?_
  refine e_let (fun (v8 : Int32) => (43, [some (.inr (.inr (some (0, 0)))), some (.inl a1), some (.inl a2), some (.inl a3), some (.inl a4), some (.inl a5), some (.inl a6), some (.inl v8), none], [], m)) hres (fun v8 hres => ?_)
  refine e_steps 2 (s' := (46, [some (.inr (.inr (some (0, 0)))), some (.inl a1), some (.inl a2), some (.inl a3), some (.inl a4), some (.inl a5), some (.inl a6), some (.inl v8), none], [.inl a4, .inl a1], m)) rfl ?_
  obtain ⟨r9, hv, hres⟩ := mm_b1_some hres
  refine e_call0 (pc := 49) (L := [some (.inr (.inr (some (0, 0)))), some (.inl a1), some (.inl a2), some (.inl a3), some (.inl a4), some (.inl a5), some (.inl a6), some (.inl v8), none]) (st := []) (m' := m) (v := some (.inl r9)) rfl (k_X11_groundEnd d (by omega) a1 a4 _ _ hv) ?_
  show mm_E (d + 1) 21 (49, [some (.inr (.inr (some (0, 0)))), some (.inl a1), some (.inl a2), some (.inl a3), some (.inl a4), some (.inl a5), some (.inl a6), some (.inl v8), none], [.inl r9], m) (mm_th m (fun (t : Int32) => (.inl (some (.inl t)), m, 0, 0)) r)
  refine e_steps 3 (s' := (53, [some (.inr (.inr (some (0, 0)))), some (.inl a1), some (.inl a2), some (.inl a3), some (.inl a4), some (.inl a5), some (.inl a6), some (.inl v8), none], [.inl a5, .inl a2, .inl a3, .inl r9], m)) rfl ?_
  obtain ⟨r10, hv, hres⟩ := mm_b1_some hres
  refine e_call0 (pc := 56) (L := [some (.inr (.inr (some (0, 0)))), some (.inl a1), some (.inl a2), some (.inl a3), some (.inl a4), some (.inl a5), some (.inl a6), some (.inl v8), none]) (st := [.inl a3, .inl r9]) (m' := m) (v := some (.inl r10)) rfl (k_X11_groundBegin d (by omega) a2 a5 _ _ hv) ?_
  show mm_E (d + 1) 21 (56, [some (.inr (.inr (some (0, 0)))), some (.inl a1), some (.inl a2), some (.inl a3), some (.inl a4), some (.inl a5), some (.inl a6), some (.inl v8), none], [.inl r10, .inl a3, .inl r9], m) (mm_th m (fun (t : Int32) => (.inl (some (.inl t)), m, 0, 0)) r)
  refine e_steps 3 (s' := (62, [some (.inr (.inr (some (0, 0)))), some (.inl a1), some (.inl a2), some (.inl a3), some (.inl a4), some (.inl a5), some (.inl a6), some (.inl v8), some (.inl (mm_min r9 (a3 - r10)))], [], m)) rfl ?_
  refine e_let (fun (v11 : Int32) => (62, [some (.inr (.inr (some (0, 0)))), some (.inl a1), some (.inl a2), some (.inl a3), some (.inl a4), some (.inl a5), some (.inl a6), some (.inl v8), some (.inl v11)], [], m)) hres (fun v11 hres => ?_)
  refine e_steps 2 (s' := (66, [some (.inr (.inr (some (0, 0)))), some (.inl a1), some (.inl a2), some (.inl a3), some (.inl a4), some (.inl a5), some (.inl a6), some (.inl v8), some (.inl v11)], [.inl v11, .inl v8], m)) rfl ?_
  refine e_if (s1 := (71, [some (.inr (.inr (some (0, 0)))), some (.inl a1), some (.inl a2), some (.inl a3), some (.inl a4), some (.inl a5), some (.inl a6), some (.inl v8), some (.inl v11)], [], m)) (s2 := (69, [some (.inr (.inr (some (0, 0)))), some (.inl a1), some (.inl a2), some (.inl a3), some (.inl a4), some (.inl a5), some (.inl a6), some (.inl v8), some (.inl v11)], [], m)) rfl hres (fun hc hres => ?_) (fun hc hres => ?_)
  · refine e_steps 1 (s' := (73, [some (.inr (.inr (some (0, 0)))), some (.inl a1), some (.inl a2), some (.inl a3), some (.inl a4), some (.inl a5), some (.inl a6), some (.inl v8), some (.inl v11)], [.inl a6], m)) rfl ?_
    refine e_if (s1 := (81, [some (.inr (.inr (some (0, 0)))), some (.inl a1), some (.inl a2), some (.inl a3), some (.inl a4), some (.inl a5), some (.inl a6), some (.inl v8), some (.inl v11)], [], m)) (s2 := (76, [some (.inr (.inr (some (0, 0)))), some (.inl a1), some (.inl a2), some (.inl a3), some (.inl a4), some (.inl a5), some (.inl a6), some (.inl v8), some (.inl v11)], [], m)) rfl hres (fun hc hres => ?_) (fun hc hres => ?_)
    · refine e_steps 1 (s' := (83, [some (.inr (.inr (some (0, 0)))), some (.inl a1), some (.inl a2), some (.inl a3), some (.inl a4), some (.inl a5), some (.inl a6), some (.inl v8), some (.inl v11)], [.inl v11], m)) rfl ?_
      refine e_mask (L' := [none, none, none, none, none, none, none, none, none]) rfl ?_
      obtain rfl := Option.some.inj hres
      exact e_ret rfl rfl
    · refine e_steps 2 (s' := (83, [some (.inr (.inr (some (0, 0)))), some (.inl a1), some (.inl a2), some (.inl a3), some (.inl a4), some (.inl a5), some (.inl a6), some (.inl v8), some (.inl v11)], [.inl v8], m)) rfl ?_
      refine e_mask (L' := [none, none, none, none, none, none, none, none, none]) rfl ?_
      obtain rfl := Option.some.inj hres
      exact e_ret rfl rfl
  · refine e_steps 1 (s' := (70, [some (.inr (.inr (some (0, 0)))), some (.inl a1), some (.inl a2), some (.inl a3), some (.inl a4), some (.inl a5), some (.inl a6), some (.inl v8), some (.inl v11)], [.inl (-1)], m)) rfl ?_
    obtain rfl := Option.some.inj hres
    exact e_ret rfl rfl
/-- GlassThreads.lamps(IIIIIIII)I -/
def f_X11_lamps (a1 : Int32) (a2 : Int32) (a3 : Int32) (a4 : Int32) (a5 : Int32) (a6 : Int32) (a7 : Int32) (a8 : Int32) (m : mm_M) : Option (Nat ⊕ (Int32 × mm_M)) :=
(mm_bx (f_X11_strandOf a1 m) fun r1 =>
(mm_bx (f_X11_needDay a8 m) fun _ =>
if a2 < 1 then (some (.inl 0))
else (if 4 < a2 then (some (.inl 0))
else (if a3 < (-60000) then (some (.inl 0))
else (if a3 ≤ 20000 then ((mm_bx (f_X11_needLevel a4 m) fun _ =>
(mm_bx (f_X11_needLevel a5 m) fun _ =>
(mm_bx (f_X11_needLevel a6 m) fun _ =>
(mm_bx (f_X11_needLevel a7 m) fun _ =>
(mm_bx (f_X11_showDay a1 a8 (m 0 0 6) m) fun m8 =>
mm_b1 (f_X6_isWhole m8) fun r9 =>
if r9 ≠ 0 then (mm_b1 (f_X2_setNeeds a4 a5 a6 a7 m8) fun m11 =>
(mm_b1 (mm_loop (σ := Int32 × mm_M) (ρ := (mm_M)) (fun (s : Int32 × mm_M) => match s with
| (v13, m14) => (if a2 ≤ v13 then (some (.inr m14))
else (if (m14 0 0 3) = -1 then (mm_b1 (f_X11_ageOn a8 r1 m14) fun r16 =>
none) else (mm_let (m14 0 0 3).toNatClampNeg fun i15 =>
mm_b1 (f_X11_ageOn a8 r1 m14) fun r17 =>
mm_b1 (f_X6_weigh i15 v13 r17 m14) fun m19 =>
mm_b1 (f_X2_measure v13 a3 m19) fun m21 =>
mm_let (v13 + 1) fun v22 =>
some (.inl (v22, m21)))) : Option ((Int32 × mm_M) ⊕ ((mm_M))))) mm_fu (0, m11)) fun m23 =>
mm_b2 (f_X2_choose a2 m23) fun r24 m25 =>
some (.inr (r24, m25))))
else (some (.inr ((-1000000), m8)))))))))
else (some (.inl 0)))))))
set_option maxHeartbeats 4000000 in
set_option maxRecDepth 100000 in
theorem k_X11_lamps (d : Nat) (hd : 5 ≤ d) (a1 : Int32) (a2 : Int32) (a3 : Int32) (a4 : Int32) (a5 : Int32) (a6 : Int32) (a7 : Int32) (a8 : Int32) (m : mm_M) (r : Nat ⊕ (Int32 × mm_M)) (hres : f_X11_lamps a1 a2 a3 a4 a5 a6 a7 a8 m = some r) : mm_X d 22 [.inr (.inr (some (0, 0))), .inl a1, .inl a2, .inl a3, .inl a4, .inl a5, .inl a6, .inl a7, .inl a8] m (mm_th m (fun (t : Int32 × mm_M) => (.inl (some (.inl t.1)), t.2, 0, 0)) r) := by
  unfold f_X11_lamps at hres
  obtain ⟨d, rfl⟩ : ∃ e, d = e + 1 := ⟨d - 1, by omega⟩
  show mm_E (d + 1) 22 (0, [some (.inr (.inr (some (0, 0)))), some (.inl a1), some (.inl a2), some (.inl a3), some (.inl a4), some (.inl a5), some (.inl a6), some (.inl a7), some (.inl a8), none, none], [], m) (mm_th m (fun (t : Int32 × mm_M) => (.inl (some (.inl t.1)), t.2, 0, 0)) r)
  refine e_steps 2 (s' := (2, [some (.inr (.inr (some (0, 0)))), some (.inl a1), some (.inl a2), some (.inl a3), some (.inl a4), some (.inl a5), some (.inl a6), some (.inl a7), some (.inl a8), none, none], [.inl a1, .inr (.inr (some (0, 0)))], m)) rfl ?_
  rcases mm_bx_some hres with ⟨e9, hv, rfl⟩ | ⟨r1, hv, hres⟩
  · exact e_callx (pc := 5) (L := [some (.inr (.inr (some (0, 0)))), some (.inl a1), some (.inl a2), some (.inl a3), some (.inl a4), some (.inl a5), some (.inl a6), some (.inl a7), some (.inl a8), none, none]) (st := []) rfl rfl (k_X11_strandOf d (by omega) a1 _ _ hv)
  refine e_call0 (pc := 5) (L := [some (.inr (.inr (some (0, 0)))), some (.inl a1), some (.inl a2), some (.inl a3), some (.inl a4), some (.inl a5), some (.inl a6), some (.inl a7), some (.inl a8), none, none]) (st := []) (m' := m) (v := some (.inr (.inr (some (5, r1))))) rfl (k_X11_strandOf d (by omega) a1 _ _ hv) ?_
  show mm_E (d + 1) 22 (5, [some (.inr (.inr (some (0, 0)))), some (.inl a1), some (.inl a2), some (.inl a3), some (.inl a4), some (.inl a5), some (.inl a6), some (.inl a7), some (.inl a8), none, none], [.inr (.inr (some (5, r1)))], m) (mm_th m (fun (t : Int32 × mm_M) => (.inl (some (.inl t.1)), t.2, 0, 0)) r)
  refine e_steps 2 (s' := (9, [some (.inr (.inr (some (0, 0)))), some (.inl a1), some (.inl a2), some (.inl a3), some (.inl a4), some (.inl a5), some (.inl a6), some (.inl a7), some (.inl a8), some (.inr (.inr (some (5, r1)))), none], [.inl a8], m)) rfl ?_
  rcases mm_bx_some hres with ⟨e9, hv, rfl⟩ | ⟨t, hv, hres⟩
  · exact e_callx (pc := 12) (L := [some (.inr (.inr (some (0, 0)))), some (.inl a1), some (.inl a2), some (.inl a3), some (.inl a4), some (.inl a5), some (.inl a6), some (.inl a7), some (.inl a8), some (.inr (.inr (some (5, r1)))), none]) (st := []) rfl rfl (k_X11_needDay d (by omega) a8 _ _ hv)
  refine e_call0 (pc := 12) (L := [some (.inr (.inr (some (0, 0)))), some (.inl a1), some (.inl a2), some (.inl a3), some (.inl a4), some (.inl a5), some (.inl a6), some (.inl a7), some (.inl a8), some (.inr (.inr (some (5, r1)))), none]) (st := []) (m' := m) (v := none) rfl (k_X11_needDay d (by omega) a8 _ _ hv) ?_
  show mm_E (d + 1) 22 (12, [some (.inr (.inr (some (0, 0)))), some (.inl a1), some (.inl a2), some (.inl a3), some (.inl a4), some (.inl a5), some (.inl a6), some (.inl a7), some (.inl a8), some (.inr (.inr (some (5, r1)))), none], [], m) (mm_th m (fun (t : Int32 × mm_M) => (.inl (some (.inl t.1)), t.2, 0, 0)) r)
  refine e_steps 2 (s' := (14, [some (.inr (.inr (some (0, 0)))), some (.inl a1), some (.inl a2), some (.inl a3), some (.inl a4), some (.inl a5), some (.inl a6), some (.inl a7), some (.inl a8), some (.inr (.inr (some (5, r1)))), none], [.inl 1, .inl a2], m)) rfl ?_
  refine e_if (s1 := (36, [some (.inr (.inr (some (0, 0)))), some (.inl a1), some (.inl a2), some (.inl a3), some (.inl a4), some (.inl a5), some (.inl a6), some (.inl a7), some (.inl a8), some (.inr (.inr (some (5, r1)))), none], [], m)) (s2 := (17, [some (.inr (.inr (some (0, 0)))), some (.inl a1), some (.inl a2), some (.inl a3), some (.inl a4), some (.inl a5), some (.inl a6), some (.inl a7), some (.inl a8), some (.inr (.inr (some (5, r1)))), none], [], m)) rfl hres (fun hc hres => ?_) (fun hc hres => ?_)
  · refine e_mask (L' := [none, none, none, none, none, none, none, none, none, none, none]) rfl ?_
    obtain rfl := Option.some.inj hres
    exact e_ret rfl rfl
  · refine e_steps 2 (s' := (19, [some (.inr (.inr (some (0, 0)))), some (.inl a1), some (.inl a2), some (.inl a3), some (.inl a4), some (.inl a5), some (.inl a6), some (.inl a7), some (.inl a8), some (.inr (.inr (some (5, r1)))), none], [.inl 4, .inl a2], m)) rfl ?_
    refine e_if (s1 := (36, [some (.inr (.inr (some (0, 0)))), some (.inl a1), some (.inl a2), some (.inl a3), some (.inl a4), some (.inl a5), some (.inl a6), some (.inl a7), some (.inl a8), some (.inr (.inr (some (5, r1)))), none], [], m)) (s2 := (22, [some (.inr (.inr (some (0, 0)))), some (.inl a1), some (.inl a2), some (.inl a3), some (.inl a4), some (.inl a5), some (.inl a6), some (.inl a7), some (.inl a8), some (.inr (.inr (some (5, r1)))), none], [], m)) rfl hres (fun hc hres => ?_) (fun hc hres => ?_)
    · refine e_mask (L' := [none, none, none, none, none, none, none, none, none, none, none]) rfl ?_
      obtain rfl := Option.some.inj hres
      exact e_ret rfl rfl
    · refine e_steps 2 (s' := (26, [some (.inr (.inr (some (0, 0)))), some (.inl a1), some (.inl a2), some (.inl a3), some (.inl a4), some (.inl a5), some (.inl a6), some (.inl a7), some (.inl a8), some (.inr (.inr (some (5, r1)))), none], [.inl (-60000), .inl a3], m)) rfl ?_
      refine e_if (s1 := (36, [some (.inr (.inr (some (0, 0)))), some (.inl a1), some (.inl a2), some (.inl a3), some (.inl a4), some (.inl a5), some (.inl a6), some (.inl a7), some (.inl a8), some (.inr (.inr (some (5, r1)))), none], [], m)) (s2 := (29, [some (.inr (.inr (some (0, 0)))), some (.inl a1), some (.inl a2), some (.inl a3), some (.inl a4), some (.inl a5), some (.inl a6), some (.inl a7), some (.inl a8), some (.inr (.inr (some (5, r1)))), none], [], m)) rfl hres (fun hc hres => ?_) (fun hc hres => ?_)
      · refine e_mask (L' := [none, none, none, none, none, none, none, none, none, none, none]) rfl ?_
        obtain rfl := Option.some.inj hres
        exact e_ret rfl rfl
      · refine e_steps 2 (s' := (33, [some (.inr (.inr (some (0, 0)))), some (.inl a1), some (.inl a2), some (.inl a3), some (.inl a4), some (.inl a5), some (.inl a6), some (.inl a7), some (.inl a8), some (.inr (.inr (some (5, r1)))), none], [.inl 20000, .inl a3], m)) rfl ?_
        refine e_if (s1 := (47, [some (.inr (.inr (some (0, 0)))), some (.inl a1), some (.inl a2), some (.inl a3), some (.inl a4), some (.inl a5), some (.inl a6), some (.inl a7), some (.inl a8), some (.inr (.inr (some (5, r1)))), none], [], m)) (s2 := (36, [some (.inr (.inr (some (0, 0)))), some (.inl a1), some (.inl a2), some (.inl a3), some (.inl a4), some (.inl a5), some (.inl a6), some (.inl a7), some (.inl a8), some (.inr (.inr (some (5, r1)))), none], [], m)) rfl hres (fun hc hres => ?_) (fun hc hres => ?_)
        · refine e_steps 1 (s' := (49, [some (.inr (.inr (some (0, 0)))), some (.inl a1), some (.inl a2), some (.inl a3), some (.inl a4), some (.inl a5), some (.inl a6), some (.inl a7), some (.inl a8), some (.inr (.inr (some (5, r1)))), none], [.inl a4], m)) rfl ?_
          rcases mm_bx_some hres with ⟨e9, hv, rfl⟩ | ⟨t, hv, hres⟩
          · exact e_callx (pc := 52) (L := [some (.inr (.inr (some (0, 0)))), some (.inl a1), some (.inl a2), some (.inl a3), some (.inl a4), some (.inl a5), some (.inl a6), some (.inl a7), some (.inl a8), some (.inr (.inr (some (5, r1)))), none]) (st := []) rfl rfl (k_X11_needLevel d (by omega) a4 _ _ hv)
          refine e_call0 (pc := 52) (L := [some (.inr (.inr (some (0, 0)))), some (.inl a1), some (.inl a2), some (.inl a3), some (.inl a4), some (.inl a5), some (.inl a6), some (.inl a7), some (.inl a8), some (.inr (.inr (some (5, r1)))), none]) (st := []) (m' := m) (v := none) rfl (k_X11_needLevel d (by omega) a4 _ _ hv) ?_
          show mm_E (d + 1) 22 (52, [some (.inr (.inr (some (0, 0)))), some (.inl a1), some (.inl a2), some (.inl a3), some (.inl a4), some (.inl a5), some (.inl a6), some (.inl a7), some (.inl a8), some (.inr (.inr (some (5, r1)))), none], [], m) (mm_th m (fun (t : Int32 × mm_M) => (.inl (some (.inl t.1)), t.2, 0, 0)) r)
          refine e_steps 1 (s' := (54, [some (.inr (.inr (some (0, 0)))), some (.inl a1), some (.inl a2), some (.inl a3), some (.inl a4), some (.inl a5), some (.inl a6), some (.inl a7), some (.inl a8), some (.inr (.inr (some (5, r1)))), none], [.inl a5], m)) rfl ?_
          rcases mm_bx_some hres with ⟨e9, hv, rfl⟩ | ⟨t, hv, hres⟩
          · exact e_callx (pc := 57) (L := [some (.inr (.inr (some (0, 0)))), some (.inl a1), some (.inl a2), some (.inl a3), some (.inl a4), some (.inl a5), some (.inl a6), some (.inl a7), some (.inl a8), some (.inr (.inr (some (5, r1)))), none]) (st := []) rfl rfl (k_X11_needLevel d (by omega) a5 _ _ hv)
          refine e_call0 (pc := 57) (L := [some (.inr (.inr (some (0, 0)))), some (.inl a1), some (.inl a2), some (.inl a3), some (.inl a4), some (.inl a5), some (.inl a6), some (.inl a7), some (.inl a8), some (.inr (.inr (some (5, r1)))), none]) (st := []) (m' := m) (v := none) rfl (k_X11_needLevel d (by omega) a5 _ _ hv) ?_
          show mm_E (d + 1) 22 (57, [some (.inr (.inr (some (0, 0)))), some (.inl a1), some (.inl a2), some (.inl a3), some (.inl a4), some (.inl a5), some (.inl a6), some (.inl a7), some (.inl a8), some (.inr (.inr (some (5, r1)))), none], [], m) (mm_th m (fun (t : Int32 × mm_M) => (.inl (some (.inl t.1)), t.2, 0, 0)) r)
          refine e_steps 1 (s' := (59, [some (.inr (.inr (some (0, 0)))), some (.inl a1), some (.inl a2), some (.inl a3), some (.inl a4), some (.inl a5), some (.inl a6), some (.inl a7), some (.inl a8), some (.inr (.inr (some (5, r1)))), none], [.inl a6], m)) rfl ?_
          rcases mm_bx_some hres with ⟨e9, hv, rfl⟩ | ⟨t, hv, hres⟩
          · exact e_callx (pc := 62) (L := [some (.inr (.inr (some (0, 0)))), some (.inl a1), some (.inl a2), some (.inl a3), some (.inl a4), some (.inl a5), some (.inl a6), some (.inl a7), some (.inl a8), some (.inr (.inr (some (5, r1)))), none]) (st := []) rfl rfl (k_X11_needLevel d (by omega) a6 _ _ hv)
          refine e_call0 (pc := 62) (L := [some (.inr (.inr (some (0, 0)))), some (.inl a1), some (.inl a2), some (.inl a3), some (.inl a4), some (.inl a5), some (.inl a6), some (.inl a7), some (.inl a8), some (.inr (.inr (some (5, r1)))), none]) (st := []) (m' := m) (v := none) rfl (k_X11_needLevel d (by omega) a6 _ _ hv) ?_
          show mm_E (d + 1) 22 (62, [some (.inr (.inr (some (0, 0)))), some (.inl a1), some (.inl a2), some (.inl a3), some (.inl a4), some (.inl a5), some (.inl a6), some (.inl a7), some (.inl a8), some (.inr (.inr (some (5, r1)))), none], [], m) (mm_th m (fun (t : Int32 × mm_M) => (.inl (some (.inl t.1)), t.2, 0, 0)) r)
          refine e_steps 1 (s' := (64, [some (.inr (.inr (some (0, 0)))), some (.inl a1), some (.inl a2), some (.inl a3), some (.inl a4), some (.inl a5), some (.inl a6), some (.inl a7), some (.inl a8), some (.inr (.inr (some (5, r1)))), none], [.inl a7], m)) rfl ?_
          rcases mm_bx_some hres with ⟨e9, hv, rfl⟩ | ⟨t, hv, hres⟩
          · exact e_callx (pc := 67) (L := [some (.inr (.inr (some (0, 0)))), some (.inl a1), some (.inl a2), some (.inl a3), some (.inl a4), some (.inl a5), some (.inl a6), some (.inl a7), some (.inl a8), some (.inr (.inr (some (5, r1)))), none]) (st := []) rfl rfl (k_X11_needLevel d (by omega) a7 _ _ hv)
          refine e_call0 (pc := 67) (L := [some (.inr (.inr (some (0, 0)))), some (.inl a1), some (.inl a2), some (.inl a3), some (.inl a4), some (.inl a5), some (.inl a6), some (.inl a7), some (.inl a8), some (.inr (.inr (some (5, r1)))), none]) (st := []) (m' := m) (v := none) rfl (k_X11_needLevel d (by omega) a7 _ _ hv) ?_
          show mm_E (d + 1) 22 (67, [some (.inr (.inr (some (0, 0)))), some (.inl a1), some (.inl a2), some (.inl a3), some (.inl a4), some (.inl a5), some (.inl a6), some (.inl a7), some (.inl a8), some (.inr (.inr (some (5, r1)))), none], [], m) (mm_th m (fun (t : Int32 × mm_M) => (.inl (some (.inl t.1)), t.2, 0, 0)) r)
          refine e_steps 5 (s' := (75, [some (.inr (.inr (some (0, 0)))), some (.inl a1), some (.inl a2), some (.inl a3), some (.inl a4), some (.inl a5), some (.inl a6), some (.inl a7), some (.inl a8), some (.inr (.inr (some (5, r1)))), none], [.inl (m 0 0 6), .inl a8, .inl a1, .inr (.inr (some (0, 0)))], m)) rfl ?_
          rcases mm_bx_some hres with ⟨e9, hv, rfl⟩ | ⟨m8, hv, hres⟩
          · exact e_callx (pc := 78) (L := [some (.inr (.inr (some (0, 0)))), some (.inl a1), some (.inl a2), some (.inl a3), some (.inl a4), some (.inl a5), some (.inl a6), some (.inl a7), some (.inl a8), some (.inr (.inr (some (5, r1)))), none]) (st := []) rfl rfl (k_X11_showDay d (by omega) a1 a8 (m 0 0 6) _ _ hv)
          refine e_call0 (pc := 78) (L := [some (.inr (.inr (some (0, 0)))), some (.inl a1), some (.inl a2), some (.inl a3), some (.inl a4), some (.inl a5), some (.inl a6), some (.inl a7), some (.inl a8), some (.inr (.inr (some (5, r1)))), none]) (st := []) (m' := m8) (v := none) rfl (k_X11_showDay d (by omega) a1 a8 (m 0 0 6) _ _ hv) ?_
          show mm_E (d + 1) 22 (78, [some (.inr (.inr (some (0, 0)))), some (.inl a1), some (.inl a2), some (.inl a3), some (.inl a4), some (.inl a5), some (.inl a6), some (.inl a7), some (.inl a8), some (.inr (.inr (some (5, r1)))), none], [], m8) (mm_th m (fun (t : Int32 × mm_M) => (.inl (some (.inl t.1)), t.2, 0, 0)) r)
          refine e_steps 2 (s' := (82, [some (.inr (.inr (some (0, 0)))), some (.inl a1), some (.inl a2), some (.inl a3), some (.inl a4), some (.inl a5), some (.inl a6), some (.inl a7), some (.inl a8), some (.inr (.inr (some (5, r1)))), none], [.inr (.inr (some (4, 0)))], m8)) rfl ?_
          obtain ⟨r9, hv, hres⟩ := mm_b1_some hres
          refine e_call0 (pc := 85) (L := [some (.inr (.inr (some (0, 0)))), some (.inl a1), some (.inl a2), some (.inl a3), some (.inl a4), some (.inl a5), some (.inl a6), some (.inl a7), some (.inl a8), some (.inr (.inr (some (5, r1)))), none]) (st := []) (m' := m8) (v := some (.inl r9)) rfl (k_X6_isWhole d (by omega)  _ _ hv) ?_
          show mm_E (d + 1) 22 (85, [some (.inr (.inr (some (0, 0)))), some (.inl a1), some (.inl a2), some (.inl a3), some (.inl a4), some (.inl a5), some (.inl a6), some (.inl a7), some (.inl a8), some (.inr (.inr (some (5, r1)))), none], [.inl r9], m8) (mm_th m (fun (t : Int32 × mm_M) => (.inl (some (.inl t.1)), t.2, 0, 0)) r)
          refine e_if (s1 := (92, [some (.inr (.inr (some (0, 0)))), some (.inl a1), some (.inl a2), some (.inl a3), some (.inl a4), some (.inl a5), some (.inl a6), some (.inl a7), some (.inl a8), some (.inr (.inr (some (5, r1)))), none], [], m8)) (s2 := (88, [some (.inr (.inr (some (0, 0)))), some (.inl a1), some (.inl a2), some (.inl a3), some (.inl a4), some (.inl a5), some (.inl a6), some (.inl a7), some (.inl a8), some (.inr (.inr (some (5, r1)))), none], [], m8)) rfl hres (fun hc hres => ?_) (fun hc hres => ?_)
          · refine e_steps 6 (s' := (104, [some (.inr (.inr (some (0, 0)))), some (.inl a1), some (.inl a2), some (.inl a3), some (.inl a4), some (.inl a5), some (.inl a6), some (.inl a7), some (.inl a8), some (.inr (.inr (some (5, r1)))), none], [.inl a7, .inl a6, .inl a5, .inl a4, .inr (.inr (some (8, 0)))], m8)) rfl ?_
            obtain ⟨m11, hv, hres⟩ := mm_b1_some hres
            refine e_call0 (pc := 107) (L := [some (.inr (.inr (some (0, 0)))), some (.inl a1), some (.inl a2), some (.inl a3), some (.inl a4), some (.inl a5), some (.inl a6), some (.inl a7), some (.inl a8), some (.inr (.inr (some (5, r1)))), none]) (st := []) (m' := m11) (v := none) rfl (k_X2_setNeeds d (by omega) a4 a5 a6 a7 _ _ hv) ?_
            show mm_E (d + 1) 22 (107, [some (.inr (.inr (some (0, 0)))), some (.inl a1), some (.inl a2), some (.inl a3), some (.inl a4), some (.inl a5), some (.inl a6), some (.inl a7), some (.inl a8), some (.inr (.inr (some (5, r1)))), none], [], m11) (mm_th m (fun (t : Int32 × mm_M) => (.inl (some (.inl t.1)), t.2, 0, 0)) r)
            refine e_steps 2 (s' := (110, [some (.inr (.inr (some (0, 0)))), some (.inl a1), some (.inl a2), some (.inl a3), some (.inl a4), some (.inl a5), some (.inl a6), some (.inl a7), some (.inl a8), some (.inr (.inr (some (5, r1)))), some (.inl 0)], [], m11)) rfl ?_
            refine e_mask (L' := [some (.inr (.inr (some (0, 0)))), none, some (.inl a2), some (.inl a3), none, none, none, none, some (.inl a8), some (.inr (.inr (some (5, r1)))), some (.inl 0)]) rfl ?_
            refine e_loopb (φ := fun s => (110, [some (.inr (.inr (some (0, 0)))), none, some (.inl a2), some (.inl a3), none, none, none, none, some (.inl a8), some (.inr (.inr (some (5, r1)))), some (.inl s.1)], [], s.2)) (K := fun t => mm_E (d + 1) 22 (156, [some (.inr (.inr (some (0, 0)))), none, some (.inl a2), none, none, none, none, none, none, none, none], [], t) (mm_th m (fun (t : Int32 × mm_M) => (.inl (some (.inl t.1)), t.2, 0, 0)) r)) hres (fun m23 hres => ?_) (fun s ol12 hres hcl12 hxl12 => ?_)
            · show mm_E (d + 1) 22 (156, [some (.inr (.inr (some (0, 0)))), none, some (.inl a2), none, none, none, none, none, none, none, none], [], m23) (mm_th m (fun (t : Int32 × mm_M) => (.inl (some (.inl t.1)), t.2, 0, 0)) r)
              refine e_steps 3 (s' := (161, [some (.inr (.inr (some (0, 0)))), none, some (.inl a2), none, none, none, none, none, none, none, none], [.inl a2, .inr (.inr (some (8, 0)))], m23)) rfl ?_
              obtain ⟨r24, m25, hv, hres⟩ := mm_b2_some hres
              refine e_call0 (pc := 164) (L := [some (.inr (.inr (some (0, 0)))), none, some (.inl a2), none, none, none, none, none, none, none, none]) (st := []) (m' := m25) (v := some (.inl r24)) rfl (k_X2_choose d (by omega) a2 _ _ hv) ?_
              show mm_E (d + 1) 22 (164, [some (.inr (.inr (some (0, 0)))), none, some (.inl a2), none, none, none, none, none, none, none, none], [.inl r24], m25) (mm_th m (fun (t : Int32 × mm_M) => (.inl (some (.inl t.1)), t.2, 0, 0)) r)
              obtain rfl := Option.some.inj hres
              exact e_ret rfl rfl
            · obtain ⟨v13, m14⟩ := s
              show mm_E (d + 1) 22 (110, [some (.inr (.inr (some (0, 0)))), none, some (.inl a2), some (.inl a3), none, none, none, none, some (.inl a8), some (.inr (.inr (some (5, r1)))), some (.inl v13)], [], m14) (mm_th m (fun (t : Int32 × mm_M) => (.inl (some (.inl t.1)), t.2, 0, 0)) r)
              refine e_steps 2 (s' := (113, [some (.inr (.inr (some (0, 0)))), none, some (.inl a2), some (.inl a3), none, none, none, none, some (.inl a8), some (.inr (.inr (some (5, r1)))), some (.inl v13)], [.inl a2, .inl v13], m14)) rfl ?_
              refine e_if (s1 := (156, [some (.inr (.inr (some (0, 0)))), none, some (.inl a2), some (.inl a3), none, none, none, none, some (.inl a8), some (.inr (.inr (some (5, r1)))), some (.inl v13)], [], m14)) (s2 := (116, [some (.inr (.inr (some (0, 0)))), none, some (.inl a2), some (.inl a3), none, none, none, none, some (.inl a8), some (.inr (.inr (some (5, r1)))), some (.inl v13)], [], m14)) rfl hres (fun hc hres => ?_) (fun hc hres => ?_)
              · obtain rfl := Option.some.inj hres
                exact e_mask (L' := [some (.inr (.inr (some (0, 0)))), none, some (.inl a2), none, none, none, none, none, none, none, none]) rfl (hxl12 _ rfl)
              · refine e_steps 3 (s' := (121, [some (.inr (.inr (some (0, 0)))), none, some (.inl a2), some (.inl a3), none, none, none, none, some (.inl a8), some (.inr (.inr (some (5, r1)))), some (.inl v13)], [.inr (.inr (some (0, 0))), .inr (.inr (some (4, 0)))], m14)) rfl ?_
                refine e_if (s1 := (124, [some (.inr (.inr (some (0, 0)))), none, some (.inl a2), some (.inl a3), none, none, none, none, some (.inl a8), some (.inr (.inr (some (5, r1)))), some (.inl v13)], [.inr (.inr none), .inr (.inr (some (4, 0)))], m14)) (s2 := (124, [some (.inr (.inr (some (0, 0)))), none, some (.inl a2), some (.inl a3), none, none, none, none, some (.inl a8), some (.inr (.inr (some (5, r1)))), some (.inl v13)], [.inr (.inr (some (2, (m14 0 0 3).toNatClampNeg))), .inr (.inr (some (4, 0)))], m14)) rfl hres (fun hc hres => ?_) (fun hc hres => ?_)
                · refine e_steps 3 (s' := (130, [some (.inr (.inr (some (0, 0)))), none, some (.inl a2), some (.inl a3), none, none, none, none, some (.inl a8), some (.inr (.inr (some (5, r1)))), some (.inl v13)], [.inr (.inr (some (5, r1))), .inl a8, .inl v13, .inr (.inr none), .inr (.inr (some (4, 0)))], m14)) rfl ?_
                  obtain ⟨r16, hv, hres⟩ := mm_b1_some hres
                  refine e_call0 (pc := 133) (L := [some (.inr (.inr (some (0, 0)))), none, some (.inl a2), some (.inl a3), none, none, none, none, some (.inl a8), some (.inr (.inr (some (5, r1)))), some (.inl v13)]) (st := [.inl v13, .inr (.inr none), .inr (.inr (some (4, 0)))]) (m' := m14) (v := some (.inl r16)) rfl (k_X11_ageOn d (by omega) a8 r1 _ _ hv) ?_
                  show mm_E (d + 1) 22 (133, [some (.inr (.inr (some (0, 0)))), none, some (.inl a2), some (.inl a3), none, none, none, none, some (.inl a8), some (.inr (.inr (some (5, r1)))), some (.inl v13)], [.inl r16, .inl v13, .inr (.inr none), .inr (.inr (some (4, 0)))], m14) (mm_th m (fun (t : Int32 × mm_M) => (.inl (some (.inl t.1)), t.2, 0, 0)) r)
                  cases hres
                · refine e_let (fun (i15 : Nat) => (124, [some (.inr (.inr (some (0, 0)))), none, some (.inl a2), some (.inl a3), none, none, none, none, some (.inl a8), some (.inr (.inr (some (5, r1)))), some (.inl v13)], [.inr (.inr (some (2, i15))), .inr (.inr (some (4, 0)))], m14)) hres (fun i15 hres => ?_)
                  refine e_steps 3 (s' := (130, [some (.inr (.inr (some (0, 0)))), none, some (.inl a2), some (.inl a3), none, none, none, none, some (.inl a8), some (.inr (.inr (some (5, r1)))), some (.inl v13)], [.inr (.inr (some (5, r1))), .inl a8, .inl v13, .inr (.inr (some (2, i15))), .inr (.inr (some (4, 0)))], m14)) rfl ?_
                  obtain ⟨r17, hv, hres⟩ := mm_b1_some hres
                  refine e_call0 (pc := 133) (L := [some (.inr (.inr (some (0, 0)))), none, some (.inl a2), some (.inl a3), none, none, none, none, some (.inl a8), some (.inr (.inr (some (5, r1)))), some (.inl v13)]) (st := [.inl v13, .inr (.inr (some (2, i15))), .inr (.inr (some (4, 0)))]) (m' := m14) (v := some (.inl r17)) rfl (k_X11_ageOn d (by omega) a8 r1 _ _ hv) ?_
                  show mm_E (d + 1) 22 (133, [some (.inr (.inr (some (0, 0)))), none, some (.inl a2), some (.inl a3), none, none, none, none, some (.inl a8), some (.inr (.inr (some (5, r1)))), some (.inl v13)], [.inl r17, .inl v13, .inr (.inr (some (2, i15))), .inr (.inr (some (4, 0)))], m14) (mm_th m (fun (t : Int32 × mm_M) => (.inl (some (.inl t.1)), t.2, 0, 0)) r)
                  obtain ⟨m19, hv, hres⟩ := mm_b1_some hres
                  refine e_call0 (pc := 136) (L := [some (.inr (.inr (some (0, 0)))), none, some (.inl a2), some (.inl a3), none, none, none, none, some (.inl a8), some (.inr (.inr (some (5, r1)))), some (.inl v13)]) (st := []) (m' := m19) (v := none) rfl (k_X6_weigh d (by omega) i15 v13 r17 _ _ hv) ?_
                  show mm_E (d + 1) 22 (136, [some (.inr (.inr (some (0, 0)))), none, some (.inl a2), some (.inl a3), none, none, none, none, some (.inl a8), some (.inr (.inr (some (5, r1)))), some (.inl v13)], [], m19) (mm_th m (fun (t : Int32 × mm_M) => (.inl (some (.inl t.1)), t.2, 0, 0)) r)
                  refine e_steps 6 (s' := (147, [some (.inr (.inr (some (0, 0)))), none, some (.inl a2), some (.inl a3), none, none, none, none, some (.inl a8), some (.inr (.inr (some (5, r1)))), some (.inl v13)], [.inl a3, .inl v13, .inr (.inr (some (4, 0))), .inr (.inr (some (8, 0)))], m19)) rfl ?_
                  obtain ⟨m21, hv, hres⟩ := mm_b1_some hres
                  refine e_call0 (pc := 150) (L := [some (.inr (.inr (some (0, 0)))), none, some (.inl a2), some (.inl a3), none, none, none, none, some (.inl a8), some (.inr (.inr (some (5, r1)))), some (.inl v13)]) (st := []) (m' := m21) (v := none) rfl (k_X2_measure d (by omega) v13 a3 _ _ hv) ?_
                  show mm_E (d + 1) 22 (150, [some (.inr (.inr (some (0, 0)))), none, some (.inl a2), some (.inl a3), none, none, none, none, some (.inl a8), some (.inr (.inr (some (5, r1)))), some (.inl v13)], [], m21) (mm_th m (fun (t : Int32 × mm_M) => (.inl (some (.inl t.1)), t.2, 0, 0)) r)
                  refine e_steps 1 (s' := (153, [some (.inr (.inr (some (0, 0)))), none, some (.inl a2), some (.inl a3), none, none, none, none, some (.inl a8), some (.inr (.inr (some (5, r1)))), some (.inl (v13 + 1))], [], m21)) rfl ?_
                  refine e_let (fun (v22 : Int32) => (153, [some (.inr (.inr (some (0, 0)))), none, some (.inl a2), some (.inl a3), none, none, none, none, some (.inl a8), some (.inr (.inr (some (5, r1)))), some (.inl v22)], [], m21)) hres (fun v22 hres => ?_)
                  refine e_steps 1 (s' := (110, [some (.inr (.inr (some (0, 0)))), none, some (.inl a2), some (.inl a3), none, none, none, none, some (.inl a8), some (.inr (.inr (some (5, r1)))), some (.inl v22)], [], m21)) rfl ?_
                  obtain rfl := Option.some.inj hres
                  exact e_mask (L' := [some (.inr (.inr (some (0, 0)))), none, some (.inl a2), some (.inl a3), none, none, none, none, some (.inl a8), some (.inr (.inr (some (5, r1)))), some (.inl v22)]) rfl (hcl12 _ rfl)
          · refine e_steps 1 (s' := (91, [some (.inr (.inr (some (0, 0)))), some (.inl a1), some (.inl a2), some (.inl a3), some (.inl a4), some (.inl a5), some (.inl a6), some (.inl a7), some (.inl a8), some (.inr (.inr (some (5, r1)))), none], [.inl (-1000000)], m8)) rfl ?_
            obtain rfl := Option.some.inj hres
            exact e_ret rfl rfl
        · refine e_mask (L' := [none, none, none, none, none, none, none, none, none, none, none]) rfl ?_
          obtain rfl := Option.some.inj hres
          exact e_ret rfl rfl
/-- GlassThreads.steps(I)I -/
def f_X11_steps (a1 : Int32) (m : mm_M) : Option (Nat ⊕ (Int32)) :=
(mm_bx (f_X11_needColour a1 m) fun _ =>
if (m 8 0 4) ≤ a1 then (some (.inr (-1)))
else (if mm_in a1 4 then (
some (.inr (m 51 0 a1.toNatClampNeg))) else none))
set_option maxHeartbeats 4000000 in
set_option maxRecDepth 100000 in
theorem k_X11_steps (d : Nat) (hd : 1 ≤ d) (a1 : Int32) (m : mm_M) (r : Nat ⊕ (Int32)) (hres : f_X11_steps a1 m = some r) : mm_X d 23 [.inr (.inr (some (0, 0))), .inl a1] m (mm_th m (fun (t : Int32) => (.inl (some (.inl t)), m, 0, 0)) r) := by
  unfold f_X11_steps at hres
  obtain ⟨d, rfl⟩ : ∃ e, d = e + 1 := ⟨d - 1, by omega⟩
  show mm_E (d + 1) 23 (0, [some (.inr (.inr (some (0, 0)))), some (.inl a1)], [], m) (mm_th m (fun (t : Int32) => (.inl (some (.inl t)), m, 0, 0)) r)
  refine e_steps 1 (s' := (1, [some (.inr (.inr (some (0, 0)))), some (.inl a1)], [.inl a1], m)) rfl ?_
  rcases mm_bx_some hres with ⟨e9, hv, rfl⟩ | ⟨t, hv, hres⟩
  · exact e_callx (pc := 4) (L := [some (.inr (.inr (some (0, 0)))), some (.inl a1)]) (st := []) rfl rfl (k_X11_needColour d (by omega) a1 _ _ hv)
  refine e_call0 (pc := 4) (L := [some (.inr (.inr (some (0, 0)))), some (.inl a1)]) (st := []) (m' := m) (v := none) rfl (k_X11_needColour d (by omega) a1 _ _ hv) ?_
  show mm_E (d + 1) 23 (4, [some (.inr (.inr (some (0, 0)))), some (.inl a1)], [], m) (mm_th m (fun (t : Int32) => (.inl (some (.inl t)), m, 0, 0)) r)
  refine e_steps 4 (s' := (12, [some (.inr (.inr (some (0, 0)))), some (.inl a1)], [.inl (m 8 0 4), .inl a1], m)) rfl ?_
  refine e_if (s1 := (27, [some (.inr (.inr (some (0, 0)))), some (.inl a1)], [], m)) (s2 := (15, [some (.inr (.inr (some (0, 0)))), some (.inl a1)], [], m)) rfl hres (fun hc hres => ?_) (fun hc hres => ?_)
  · refine e_steps 1 (s' := (28, [some (.inr (.inr (some (0, 0)))), some (.inl a1)], [.inl (-1)], m)) rfl ?_
    refine e_mask (L' := [none, none]) rfl ?_
    obtain rfl := Option.some.inj hres
    exact e_ret rfl rfl
  · refine e_steps 4 (s' := (23, [some (.inr (.inr (some (0, 0)))), some (.inl a1)], [.inl a1, .inr (.inr (some (51, 0)))], m)) rfl ?_
    refine e_gd (s1 := (24, [some (.inr (.inr (some (0, 0)))), some (.inl a1)], [.inl (m 51 0 a1.toNatClampNeg)], m)) rfl hres (fun hc hres => ?_)
    refine e_steps 1 (s' := (28, [some (.inr (.inr (some (0, 0)))), some (.inl a1)], [.inl (m 51 0 a1.toNatClampNeg)], m)) rfl ?_
    refine e_mask (L' := [none, none]) rfl ?_
    obtain rfl := Option.some.inj hres
    exact e_ret rfl rfl
/-- GlassThreads.needNode(I)V -/
def f_X11_needNode (a0 : Int32) (m : mm_M) : Option (Nat ⊕ (Unit)) :=
if a0 < 0 then (some (.inl 1))
else (if a0 < 8 then (some (.inr ()))
else (some (.inl 1)))
set_option maxHeartbeats 4000000 in
set_option maxRecDepth 100000 in
theorem k_X11_needNode (d : Nat) (hd : 0 ≤ d) (a0 : Int32) (m : mm_M) (r : Nat ⊕ (Unit)) (hres : f_X11_needNode a0 m = some r) : mm_X d 46 [.inl a0] m (mm_th m (fun (t : Unit) => (.inl none, m, 0, 0)) r) := by
  unfold f_X11_needNode at hres
  show mm_E d 46 (0, [some (.inl a0)], [], m) (mm_th m (fun (t : Unit) => (.inl none, m, 0, 0)) r)
  refine e_steps 1 (s' := (1, [some (.inl a0)], [.inl a0], m)) rfl ?_
  refine e_if (s1 := (10, [some (.inl a0)], [], m)) (s2 := (4, [some (.inl a0)], [], m)) rfl hres (fun hc hres => ?_) (fun hc hres => ?_)
  · refine e_mask (L' := [none]) rfl ?_
    obtain rfl := Option.some.inj hres
    exact e_ret rfl rfl
  · refine e_steps 2 (s' := (7, [some (.inl a0)], [.inl 8, .inl a0], m)) rfl ?_
    refine e_if (s1 := (21, [some (.inl a0)], [], m)) (s2 := (10, [some (.inl a0)], [], m)) rfl hres (fun hc hres => ?_) (fun hc hres => ?_)
    · obtain rfl := Option.some.inj hres
      exact e_ret rfl rfl
    · refine e_mask (L' := [none]) rfl ?_
      obtain rfl := Option.some.inj hres
      exact e_ret rfl rfl
/-- GlassThreads.cable(IIII)I -/
def f_X11_cable (a1 : Int32) (a2 : Int32) (a3 : Int32) (a4 : Int32) (m : mm_M) : Option (Nat ⊕ (Int32 × mm_M)) :=
(mm_bx (f_X11_needNode a1 m) fun _ =>
(mm_bx (f_X11_needNode a2 m) fun _ =>
(mm_bx (f_X11_strandOf a3 m) fun r3 =>
if a1 = a2 then (some (.inr ((-1), m)))
else (if a4 < 1 then (some (.inr ((-1), m)))
else (if a4 ≤ 8 then (mm_b2 (f_X4_addCable a1 a2 a3 a4 m) fun r4 m5 =>
some (.inr (r4, m5)))
else (some (.inr ((-1), m))))))))
set_option maxHeartbeats 4000000 in
set_option maxRecDepth 100000 in
theorem k_X11_cable (d : Nat) (hd : 1 ≤ d) (a1 : Int32) (a2 : Int32) (a3 : Int32) (a4 : Int32) (m : mm_M) (r : Nat ⊕ (Int32 × mm_M)) (hres : f_X11_cable a1 a2 a3 a4 m = some r) : mm_X d 24 [.inr (.inr (some (0, 0))), .inl a1, .inl a2, .inl a3, .inl a4] m (mm_th m (fun (t : Int32 × mm_M) => (.inl (some (.inl t.1)), t.2, 0, 0)) r) := by
  unfold f_X11_cable at hres
  obtain ⟨d, rfl⟩ : ∃ e, d = e + 1 := ⟨d - 1, by omega⟩
  show mm_E (d + 1) 24 (0, [some (.inr (.inr (some (0, 0)))), some (.inl a1), some (.inl a2), some (.inl a3), some (.inl a4)], [], m) (mm_th m (fun (t : Int32 × mm_M) => (.inl (some (.inl t.1)), t.2, 0, 0)) r)
  refine e_steps 1 (s' := (1, [some (.inr (.inr (some (0, 0)))), some (.inl a1), some (.inl a2), some (.inl a3), some (.inl a4)], [.inl a1], m)) rfl ?_
  rcases mm_bx_some hres with ⟨e9, hv, rfl⟩ | ⟨t, hv, hres⟩
  · exact e_callx (pc := 4) (L := [some (.inr (.inr (some (0, 0)))), some (.inl a1), some (.inl a2), some (.inl a3), some (.inl a4)]) (st := []) rfl rfl (k_X11_needNode d (by omega) a1 _ _ hv)
  refine e_call0 (pc := 4) (L := [some (.inr (.inr (some (0, 0)))), some (.inl a1), some (.inl a2), some (.inl a3), some (.inl a4)]) (st := []) (m' := m) (v := none) rfl (k_X11_needNode d (by omega) a1 _ _ hv) ?_
  show mm_E (d + 1) 24 (4, [some (.inr (.inr (some (0, 0)))), some (.inl a1), some (.inl a2), some (.inl a3), some (.inl a4)], [], m) (mm_th m (fun (t : Int32 × mm_M) => (.inl (some (.inl t.1)), t.2, 0, 0)) r)
  refine e_steps 1 (s' := (5, [some (.inr (.inr (some (0, 0)))), some (.inl a1), some (.inl a2), some (.inl a3), some (.inl a4)], [.inl a2], m)) rfl ?_
  rcases mm_bx_some hres with ⟨e9, hv, rfl⟩ | ⟨t, hv, hres⟩
  · exact e_callx (pc := 8) (L := [some (.inr (.inr (some (0, 0)))), some (.inl a1), some (.inl a2), some (.inl a3), some (.inl a4)]) (st := []) rfl rfl (k_X11_needNode d (by omega) a2 _ _ hv)
  refine e_call0 (pc := 8) (L := [some (.inr (.inr (some (0, 0)))), some (.inl a1), some (.inl a2), some (.inl a3), some (.inl a4)]) (st := []) (m' := m) (v := none) rfl (k_X11_needNode d (by omega) a2 _ _ hv) ?_
  show mm_E (d + 1) 24 (8, [some (.inr (.inr (some (0, 0)))), some (.inl a1), some (.inl a2), some (.inl a3), some (.inl a4)], [], m) (mm_th m (fun (t : Int32 × mm_M) => (.inl (some (.inl t.1)), t.2, 0, 0)) r)
  refine e_steps 2 (s' := (10, [some (.inr (.inr (some (0, 0)))), some (.inl a1), some (.inl a2), some (.inl a3), some (.inl a4)], [.inl a3, .inr (.inr (some (0, 0)))], m)) rfl ?_
  rcases mm_bx_some hres with ⟨e9, hv, rfl⟩ | ⟨r3, hv, hres⟩
  · exact e_callx (pc := 13) (L := [some (.inr (.inr (some (0, 0)))), some (.inl a1), some (.inl a2), some (.inl a3), some (.inl a4)]) (st := []) rfl rfl (k_X11_strandOf d (by omega) a3 _ _ hv)
  refine e_call0 (pc := 13) (L := [some (.inr (.inr (some (0, 0)))), some (.inl a1), some (.inl a2), some (.inl a3), some (.inl a4)]) (st := []) (m' := m) (v := some (.inr (.inr (some (5, r3))))) rfl (k_X11_strandOf d (by omega) a3 _ _ hv) ?_
  show mm_E (d + 1) 24 (13, [some (.inr (.inr (some (0, 0)))), some (.inl a1), some (.inl a2), some (.inl a3), some (.inl a4)], [.inr (.inr (some (5, r3)))], m) (mm_th m (fun (t : Int32 × mm_M) => (.inl (some (.inl t.1)), t.2, 0, 0)) r)
  refine e_steps 3 (s' := (16, [some (.inr (.inr (some (0, 0)))), some (.inl a1), some (.inl a2), some (.inl a3), some (.inl a4)], [.inl a2, .inl a1], m)) rfl ?_
  refine e_if (s1 := (32, [some (.inr (.inr (some (0, 0)))), some (.inl a1), some (.inl a2), some (.inl a3), some (.inl a4)], [], m)) (s2 := (19, [some (.inr (.inr (some (0, 0)))), some (.inl a1), some (.inl a2), some (.inl a3), some (.inl a4)], [], m)) rfl hres (fun hc hres => ?_) (fun hc hres => ?_)
  · refine e_mask (L' := [none, none, none, none, none]) rfl ?_
    refine e_steps 1 (s' := (33, [none, none, none, none, none], [.inl (-1)], m)) rfl ?_
    obtain rfl := Option.some.inj hres
    exact e_ret rfl rfl
  · refine e_steps 2 (s' := (22, [some (.inr (.inr (some (0, 0)))), some (.inl a1), some (.inl a2), some (.inl a3), some (.inl a4)], [.inl 1, .inl a4], m)) rfl ?_
    refine e_if (s1 := (32, [some (.inr (.inr (some (0, 0)))), some (.inl a1), some (.inl a2), some (.inl a3), some (.inl a4)], [], m)) (s2 := (25, [some (.inr (.inr (some (0, 0)))), some (.inl a1), some (.inl a2), some (.inl a3), some (.inl a4)], [], m)) rfl hres (fun hc hres => ?_) (fun hc hres => ?_)
    · refine e_mask (L' := [none, none, none, none, none]) rfl ?_
      refine e_steps 1 (s' := (33, [none, none, none, none, none], [.inl (-1)], m)) rfl ?_
      obtain rfl := Option.some.inj hres
      exact e_ret rfl rfl
    · refine e_steps 2 (s' := (29, [some (.inr (.inr (some (0, 0)))), some (.inl a1), some (.inl a2), some (.inl a3), some (.inl a4)], [.inl 8, .inl a4], m)) rfl ?_
      refine e_if (s1 := (34, [some (.inr (.inr (some (0, 0)))), some (.inl a1), some (.inl a2), some (.inl a3), some (.inl a4)], [], m)) (s2 := (32, [some (.inr (.inr (some (0, 0)))), some (.inl a1), some (.inl a2), some (.inl a3), some (.inl a4)], [], m)) rfl hres (fun hc hres => ?_) (fun hc hres => ?_)
      · refine e_steps 6 (s' := (43, [some (.inr (.inr (some (0, 0)))), some (.inl a1), some (.inl a2), some (.inl a3), some (.inl a4)], [.inl a4, .inl a3, .inl a2, .inl a1, .inr (.inr (some (9, 0)))], m)) rfl ?_
        obtain ⟨r4, m5, hv, hres⟩ := mm_b2_some hres
        refine e_call0 (pc := 46) (L := [some (.inr (.inr (some (0, 0)))), some (.inl a1), some (.inl a2), some (.inl a3), some (.inl a4)]) (st := []) (m' := m5) (v := some (.inl r4)) rfl (k_X4_addCable d (by omega) a1 a2 a3 a4 _ _ hv) ?_
        show mm_E (d + 1) 24 (46, [some (.inr (.inr (some (0, 0)))), some (.inl a1), some (.inl a2), some (.inl a3), some (.inl a4)], [.inl r4], m5) (mm_th m (fun (t : Int32 × mm_M) => (.inl (some (.inl t.1)), t.2, 0, 0)) r)
        obtain rfl := Option.some.inj hres
        exact e_ret rfl rfl
      · refine e_mask (L' := [none, none, none, none, none]) rfl ?_
        refine e_steps 1 (s' := (33, [none, none, none, none, none], [.inl (-1)], m)) rfl ?_
        obtain rfl := Option.some.inj hres
        exact e_ret rfl rfl
/-- GlassThreads.task(II)I -/
def f_X11_task (a1 : Int32) (a2 : Int32) (m : mm_M) : Option (Nat ⊕ (Int32 × mm_M)) :=
(mm_bx (f_X11_needNode a1 m) fun _ =>
(mm_bx (f_X11_needNode a2 m) fun _ =>
if a1 ≠ a2 then (mm_b2 (f_X4_addTask a1 a2 m) fun r3 m4 =>
some (.inr (r3, m4)))
else (some (.inr ((-1), m)))))
set_option maxHeartbeats 4000000 in
set_option maxRecDepth 100000 in
theorem k_X11_task (d : Nat) (hd : 1 ≤ d) (a1 : Int32) (a2 : Int32) (m : mm_M) (r : Nat ⊕ (Int32 × mm_M)) (hres : f_X11_task a1 a2 m = some r) : mm_X d 25 [.inr (.inr (some (0, 0))), .inl a1, .inl a2] m (mm_th m (fun (t : Int32 × mm_M) => (.inl (some (.inl t.1)), t.2, 0, 0)) r) := by
  unfold f_X11_task at hres
  obtain ⟨d, rfl⟩ : ∃ e, d = e + 1 := ⟨d - 1, by omega⟩
  show mm_E (d + 1) 25 (0, [some (.inr (.inr (some (0, 0)))), some (.inl a1), some (.inl a2)], [], m) (mm_th m (fun (t : Int32 × mm_M) => (.inl (some (.inl t.1)), t.2, 0, 0)) r)
  refine e_steps 1 (s' := (1, [some (.inr (.inr (some (0, 0)))), some (.inl a1), some (.inl a2)], [.inl a1], m)) rfl ?_
  rcases mm_bx_some hres with ⟨e9, hv, rfl⟩ | ⟨t, hv, hres⟩
  · exact e_callx (pc := 4) (L := [some (.inr (.inr (some (0, 0)))), some (.inl a1), some (.inl a2)]) (st := []) rfl rfl (k_X11_needNode d (by omega) a1 _ _ hv)
  refine e_call0 (pc := 4) (L := [some (.inr (.inr (some (0, 0)))), some (.inl a1), some (.inl a2)]) (st := []) (m' := m) (v := none) rfl (k_X11_needNode d (by omega) a1 _ _ hv) ?_
  show mm_E (d + 1) 25 (4, [some (.inr (.inr (some (0, 0)))), some (.inl a1), some (.inl a2)], [], m) (mm_th m (fun (t : Int32 × mm_M) => (.inl (some (.inl t.1)), t.2, 0, 0)) r)
  refine e_steps 1 (s' := (5, [some (.inr (.inr (some (0, 0)))), some (.inl a1), some (.inl a2)], [.inl a2], m)) rfl ?_
  rcases mm_bx_some hres with ⟨e9, hv, rfl⟩ | ⟨t, hv, hres⟩
  · exact e_callx (pc := 8) (L := [some (.inr (.inr (some (0, 0)))), some (.inl a1), some (.inl a2)]) (st := []) rfl rfl (k_X11_needNode d (by omega) a2 _ _ hv)
  refine e_call0 (pc := 8) (L := [some (.inr (.inr (some (0, 0)))), some (.inl a1), some (.inl a2)]) (st := []) (m' := m) (v := none) rfl (k_X11_needNode d (by omega) a2 _ _ hv) ?_
  show mm_E (d + 1) 25 (8, [some (.inr (.inr (some (0, 0)))), some (.inl a1), some (.inl a2)], [], m) (mm_th m (fun (t : Int32 × mm_M) => (.inl (some (.inl t.1)), t.2, 0, 0)) r)
  refine e_steps 2 (s' := (10, [some (.inr (.inr (some (0, 0)))), some (.inl a1), some (.inl a2)], [.inl a2, .inl a1], m)) rfl ?_
  refine e_if (s1 := (17, [some (.inr (.inr (some (0, 0)))), some (.inl a1), some (.inl a2)], [], m)) (s2 := (13, [some (.inr (.inr (some (0, 0)))), some (.inl a1), some (.inl a2)], [], m)) rfl hres (fun hc hres => ?_) (fun hc hres => ?_)
  · refine e_steps 4 (s' := (23, [some (.inr (.inr (some (0, 0)))), some (.inl a1), some (.inl a2)], [.inl a2, .inl a1, .inr (.inr (some (9, 0)))], m)) rfl ?_
    obtain ⟨r3, m4, hv, hres⟩ := mm_b2_some hres
    refine e_call0 (pc := 26) (L := [some (.inr (.inr (some (0, 0)))), some (.inl a1), some (.inl a2)]) (st := []) (m' := m4) (v := some (.inl r3)) rfl (k_X4_addTask d (by omega) a1 a2 _ _ hv) ?_
    show mm_E (d + 1) 25 (26, [some (.inr (.inr (some (0, 0)))), some (.inl a1), some (.inl a2)], [.inl r3], m4) (mm_th m (fun (t : Int32 × mm_M) => (.inl (some (.inl t.1)), t.2, 0, 0)) r)
    refine e_mask (L' := [none, none, none]) rfl ?_
    obtain rfl := Option.some.inj hres
    exact e_ret rfl rfl
  · refine e_steps 2 (s' := (26, [some (.inr (.inr (some (0, 0)))), some (.inl a1), some (.inl a2)], [.inl (-1)], m)) rfl ?_
    refine e_mask (L' := [none, none, none]) rfl ?_
    obtain rfl := Option.some.inj hres
    exact e_ret rfl rfl
/-- GlassThreads.way(II)I -/
def f_X11_way (a1 : Int32) (a2 : Int32) (m : mm_M) : Option (Nat ⊕ (Int32 × mm_M)) :=
(mm_bx (f_X11_needNode a1 m) fun _ =>
(mm_bx (f_X11_needNode a2 m) fun _ =>
if (m 0 0 3) = -1 then (none) else (mm_let (m 0 0 3).toNatClampNeg fun i3 =>
mm_b1 (f_X4_weigh i3 m) fun m5 =>
mm_b2 (f_X4_keepLeast a1 a2 m5) fun r6 m7 =>
some (.inr (r6, m7)))))
set_option maxHeartbeats 4000000 in
set_option maxRecDepth 100000 in
theorem k_X11_way (d : Nat) (hd : 19 ≤ d) (a1 : Int32) (a2 : Int32) (m : mm_M) (r : Nat ⊕ (Int32 × mm_M)) (hres : f_X11_way a1 a2 m = some r) : mm_X d 26 [.inr (.inr (some (0, 0))), .inl a1, .inl a2] m (mm_th m (fun (t : Int32 × mm_M) => (.inl (some (.inl t.1)), t.2, 0, 0)) r) := by
  unfold f_X11_way at hres
  obtain ⟨d, rfl⟩ : ∃ e, d = e + 1 := ⟨d - 1, by omega⟩
  show mm_E (d + 1) 26 (0, [some (.inr (.inr (some (0, 0)))), some (.inl a1), some (.inl a2)], [], m) (mm_th m (fun (t : Int32 × mm_M) => (.inl (some (.inl t.1)), t.2, 0, 0)) r)
  refine e_steps 1 (s' := (1, [some (.inr (.inr (some (0, 0)))), some (.inl a1), some (.inl a2)], [.inl a1], m)) rfl ?_
  rcases mm_bx_some hres with ⟨e9, hv, rfl⟩ | ⟨t, hv, hres⟩
  · exact e_callx (pc := 4) (L := [some (.inr (.inr (some (0, 0)))), some (.inl a1), some (.inl a2)]) (st := []) rfl rfl (k_X11_needNode d (by omega) a1 _ _ hv)
  refine e_call0 (pc := 4) (L := [some (.inr (.inr (some (0, 0)))), some (.inl a1), some (.inl a2)]) (st := []) (m' := m) (v := none) rfl (k_X11_needNode d (by omega) a1 _ _ hv) ?_
  show mm_E (d + 1) 26 (4, [some (.inr (.inr (some (0, 0)))), some (.inl a1), some (.inl a2)], [], m) (mm_th m (fun (t : Int32 × mm_M) => (.inl (some (.inl t.1)), t.2, 0, 0)) r)
  refine e_steps 1 (s' := (5, [some (.inr (.inr (some (0, 0)))), some (.inl a1), some (.inl a2)], [.inl a2], m)) rfl ?_
  rcases mm_bx_some hres with ⟨e9, hv, rfl⟩ | ⟨t, hv, hres⟩
  · exact e_callx (pc := 8) (L := [some (.inr (.inr (some (0, 0)))), some (.inl a1), some (.inl a2)]) (st := []) rfl rfl (k_X11_needNode d (by omega) a2 _ _ hv)
  refine e_call0 (pc := 8) (L := [some (.inr (.inr (some (0, 0)))), some (.inl a1), some (.inl a2)]) (st := []) (m' := m) (v := none) rfl (k_X11_needNode d (by omega) a2 _ _ hv) ?_
  show mm_E (d + 1) 26 (8, [some (.inr (.inr (some (0, 0)))), some (.inl a1), some (.inl a2)], [], m) (mm_th m (fun (t : Int32 × mm_M) => (.inl (some (.inl t.1)), t.2, 0, 0)) r)
  refine e_steps 5 (s' := (17, [some (.inr (.inr (some (0, 0)))), some (.inl a1), some (.inl a2)], [.inr (.inr (some (0, 0))), .inr (.inr (some (13, 0))), .inr (.inr (some (9, 0)))], m)) rfl ?_
  refine e_if (s1 := (20, [some (.inr (.inr (some (0, 0)))), some (.inl a1), some (.inl a2)], [.inr (.inr none), .inr (.inr (some (13, 0))), .inr (.inr (some (9, 0)))], m)) (s2 := (20, [some (.inr (.inr (some (0, 0)))), some (.inl a1), some (.inl a2)], [.inr (.inr (some (2, (m 0 0 3).toNatClampNeg))), .inr (.inr (some (13, 0))), .inr (.inr (some (9, 0)))], m)) rfl hres (fun hc hres => ?_) (fun hc hres => ?_)
  · cases hres
  · refine e_let (fun (i3 : Nat) => (20, [some (.inr (.inr (some (0, 0)))), some (.inl a1), some (.inl a2)], [.inr (.inr (some (2, i3))), .inr (.inr (some (13, 0))), .inr (.inr (some (9, 0)))], m)) hres (fun i3 hres => ?_)
    obtain ⟨m5, hv, hres⟩ := mm_b1_some hres
    refine e_call0 (pc := 23) (L := [some (.inr (.inr (some (0, 0)))), some (.inl a1), some (.inl a2)]) (st := []) (m' := m5) (v := none) rfl (k_X4_weigh d (by omega) i3 _ _ hv) ?_
    show mm_E (d + 1) 26 (23, [some (.inr (.inr (some (0, 0)))), some (.inl a1), some (.inl a2)], [], m5) (mm_th m (fun (t : Int32 × mm_M) => (.inl (some (.inl t.1)), t.2, 0, 0)) r)
    refine e_steps 4 (s' := (29, [some (.inr (.inr (some (0, 0)))), some (.inl a1), some (.inl a2)], [.inl a2, .inl a1, .inr (.inr (some (9, 0)))], m5)) rfl ?_
    obtain ⟨r6, m7, hv, hres⟩ := mm_b2_some hres
    refine e_call0 (pc := 32) (L := [some (.inr (.inr (some (0, 0)))), some (.inl a1), some (.inl a2)]) (st := []) (m' := m7) (v := some (.inl r6)) rfl (k_X4_keepLeast d (by omega) a1 a2 _ _ hv) ?_
    show mm_E (d + 1) 26 (32, [some (.inr (.inr (some (0, 0)))), some (.inl a1), some (.inl a2)], [.inl r6], m7) (mm_th m (fun (t : Int32 × mm_M) => (.inl (some (.inl t.1)), t.2, 0, 0)) r)
    obtain rfl := Option.some.inj hres
    exact e_ret rfl rfl
/-- GlassThreads.pair(II)I -/
def f_X11_pair (a1 : Int32) (a2 : Int32) (m : mm_M) : Option (Nat ⊕ (Int32 × mm_M)) :=
(mm_bx (f_X11_needNode a1 m) fun _ =>
(mm_bx (f_X11_needNode a2 m) fun _ =>
if a1 ≠ a2 then (if (m 0 0 3) = -1 then (none) else (mm_let (m 0 0 3).toNatClampNeg fun i3 =>
mm_b1 (f_X4_weigh i3 m) fun m5 =>
mm_b2 (f_X4_keepPair a1 a2 m5) fun r6 m7 =>
some (.inr (r6, m7))))
else (some (.inr ((-1), m)))))
set_option maxHeartbeats 4000000 in
set_option maxRecDepth 100000 in
theorem k_X11_pair (d : Nat) (hd : 35 ≤ d) (a1 : Int32) (a2 : Int32) (m : mm_M) (r : Nat ⊕ (Int32 × mm_M)) (hres : f_X11_pair a1 a2 m = some r) : mm_X d 27 [.inr (.inr (some (0, 0))), .inl a1, .inl a2] m (mm_th m (fun (t : Int32 × mm_M) => (.inl (some (.inl t.1)), t.2, 0, 0)) r) := by
  unfold f_X11_pair at hres
  obtain ⟨d, rfl⟩ : ∃ e, d = e + 1 := ⟨d - 1, by omega⟩
  show mm_E (d + 1) 27 (0, [some (.inr (.inr (some (0, 0)))), some (.inl a1), some (.inl a2)], [], m) (mm_th m (fun (t : Int32 × mm_M) => (.inl (some (.inl t.1)), t.2, 0, 0)) r)
  refine e_steps 1 (s' := (1, [some (.inr (.inr (some (0, 0)))), some (.inl a1), some (.inl a2)], [.inl a1], m)) rfl ?_
  rcases mm_bx_some hres with ⟨e9, hv, rfl⟩ | ⟨t, hv, hres⟩
  · exact e_callx (pc := 4) (L := [some (.inr (.inr (some (0, 0)))), some (.inl a1), some (.inl a2)]) (st := []) rfl rfl (k_X11_needNode d (by omega) a1 _ _ hv)
  refine e_call0 (pc := 4) (L := [some (.inr (.inr (some (0, 0)))), some (.inl a1), some (.inl a2)]) (st := []) (m' := m) (v := none) rfl (k_X11_needNode d (by omega) a1 _ _ hv) ?_
  show mm_E (d + 1) 27 (4, [some (.inr (.inr (some (0, 0)))), some (.inl a1), some (.inl a2)], [], m) (mm_th m (fun (t : Int32 × mm_M) => (.inl (some (.inl t.1)), t.2, 0, 0)) r)
  refine e_steps 1 (s' := (5, [some (.inr (.inr (some (0, 0)))), some (.inl a1), some (.inl a2)], [.inl a2], m)) rfl ?_
  rcases mm_bx_some hres with ⟨e9, hv, rfl⟩ | ⟨t, hv, hres⟩
  · exact e_callx (pc := 8) (L := [some (.inr (.inr (some (0, 0)))), some (.inl a1), some (.inl a2)]) (st := []) rfl rfl (k_X11_needNode d (by omega) a2 _ _ hv)
  refine e_call0 (pc := 8) (L := [some (.inr (.inr (some (0, 0)))), some (.inl a1), some (.inl a2)]) (st := []) (m' := m) (v := none) rfl (k_X11_needNode d (by omega) a2 _ _ hv) ?_
  show mm_E (d + 1) 27 (8, [some (.inr (.inr (some (0, 0)))), some (.inl a1), some (.inl a2)], [], m) (mm_th m (fun (t : Int32 × mm_M) => (.inl (some (.inl t.1)), t.2, 0, 0)) r)
  refine e_steps 2 (s' := (10, [some (.inr (.inr (some (0, 0)))), some (.inl a1), some (.inl a2)], [.inl a2, .inl a1], m)) rfl ?_
  refine e_if (s1 := (15, [some (.inr (.inr (some (0, 0)))), some (.inl a1), some (.inl a2)], [], m)) (s2 := (13, [some (.inr (.inr (some (0, 0)))), some (.inl a1), some (.inl a2)], [], m)) rfl hres (fun hc hres => ?_) (fun hc hres => ?_)
  · refine e_steps 5 (s' := (24, [some (.inr (.inr (some (0, 0)))), some (.inl a1), some (.inl a2)], [.inr (.inr (some (0, 0))), .inr (.inr (some (13, 0))), .inr (.inr (some (9, 0)))], m)) rfl ?_
    refine e_if (s1 := (27, [some (.inr (.inr (some (0, 0)))), some (.inl a1), some (.inl a2)], [.inr (.inr none), .inr (.inr (some (13, 0))), .inr (.inr (some (9, 0)))], m)) (s2 := (27, [some (.inr (.inr (some (0, 0)))), some (.inl a1), some (.inl a2)], [.inr (.inr (some (2, (m 0 0 3).toNatClampNeg))), .inr (.inr (some (13, 0))), .inr (.inr (some (9, 0)))], m)) rfl hres (fun hc hres => ?_) (fun hc hres => ?_)
    · cases hres
    · refine e_let (fun (i3 : Nat) => (27, [some (.inr (.inr (some (0, 0)))), some (.inl a1), some (.inl a2)], [.inr (.inr (some (2, i3))), .inr (.inr (some (13, 0))), .inr (.inr (some (9, 0)))], m)) hres (fun i3 hres => ?_)
      obtain ⟨m5, hv, hres⟩ := mm_b1_some hres
      refine e_call0 (pc := 30) (L := [some (.inr (.inr (some (0, 0)))), some (.inl a1), some (.inl a2)]) (st := []) (m' := m5) (v := none) rfl (k_X4_weigh d (by omega) i3 _ _ hv) ?_
      show mm_E (d + 1) 27 (30, [some (.inr (.inr (some (0, 0)))), some (.inl a1), some (.inl a2)], [], m5) (mm_th m (fun (t : Int32 × mm_M) => (.inl (some (.inl t.1)), t.2, 0, 0)) r)
      refine e_steps 4 (s' := (36, [some (.inr (.inr (some (0, 0)))), some (.inl a1), some (.inl a2)], [.inl a2, .inl a1, .inr (.inr (some (9, 0)))], m5)) rfl ?_
      obtain ⟨r6, m7, hv, hres⟩ := mm_b2_some hres
      refine e_call0 (pc := 39) (L := [some (.inr (.inr (some (0, 0)))), some (.inl a1), some (.inl a2)]) (st := []) (m' := m7) (v := some (.inl r6)) rfl (k_X4_keepPair d (by omega) a1 a2 _ _ hv) ?_
      show mm_E (d + 1) 27 (39, [some (.inr (.inr (some (0, 0)))), some (.inl a1), some (.inl a2)], [.inl r6], m7) (mm_th m (fun (t : Int32 × mm_M) => (.inl (some (.inl t.1)), t.2, 0, 0)) r)
      obtain rfl := Option.some.inj hres
      exact e_ret rfl rfl
  · refine e_steps 1 (s' := (14, [some (.inr (.inr (some (0, 0)))), some (.inl a1), some (.inl a2)], [.inl (-1)], m)) rfl ?_
    obtain rfl := Option.some.inj hres
    exact e_ret rfl rfl
/-- GlassThreads.along(I)I -/
def f_X11_along (a1 : Int32) (m : mm_M) : Option (Nat ⊕ (Int32)) :=
mm_let (m 10 3 1) fun v1 =>
mm_let (v1 + (m 10 4 1)) fun v2 =>
if a1 ≠ (-1) then (if a1 < 0 then (some (.inl 1))
else (if a1 < v2 then (if v1 ≤ a1 then (if mm_in (a1 - v1) 8 then (
some (.inr (m 62 4 (a1 - v1).toNatClampNeg))) else none)
else (if mm_in a1 8 then (
some (.inr (m 62 3 a1.toNatClampNeg))) else none))
else (some (.inl 1))))
else (some (.inr v2))
set_option maxHeartbeats 4000000 in
set_option maxRecDepth 100000 in
theorem k_X11_along (d : Nat) (hd : 0 ≤ d) (a1 : Int32) (m : mm_M) (r : Nat ⊕ (Int32)) (hres : f_X11_along a1 m = some r) : mm_X d 28 [.inr (.inr (some (0, 0))), .inl a1] m (mm_th m (fun (t : Int32) => (.inl (some (.inl t)), m, 0, 0)) r) := by
  unfold f_X11_along at hres
  show mm_E d 28 (0, [some (.inr (.inr (some (0, 0)))), some (.inl a1), none, none], [], m) (mm_th m (fun (t : Int32) => (.inl (some (.inl t)), m, 0, 0)) r)
  refine e_steps 5 (s' := (11, [some (.inr (.inr (some (0, 0)))), some (.inl a1), some (.inl (m 10 3 1)), none], [], m)) rfl ?_
  refine e_let (fun (v1 : Int32) => (11, [some (.inr (.inr (some (0, 0)))), some (.inl a1), some (.inl v1), none], [], m)) hres (fun v1 hres => ?_)
  refine e_steps 7 (s' := (24, [some (.inr (.inr (some (0, 0)))), some (.inl a1), some (.inl v1), some (.inl (v1 + (m 10 4 1)))], [], m)) rfl ?_
  refine e_let (fun (v2 : Int32) => (24, [some (.inr (.inr (some (0, 0)))), some (.inl a1), some (.inl v1), some (.inl v2)], [], m)) hres (fun v2 hres => ?_)
  refine e_steps 2 (s' := (26, [some (.inr (.inr (some (0, 0)))), some (.inl a1), some (.inl v1), some (.inl v2)], [.inl (-1), .inl a1], m)) rfl ?_
  refine e_if (s1 := (31, [some (.inr (.inr (some (0, 0)))), some (.inl a1), some (.inl v1), some (.inl v2)], [], m)) (s2 := (29, [some (.inr (.inr (some (0, 0)))), some (.inl a1), some (.inl v1), some (.inl v2)], [], m)) rfl hres (fun hc hres => ?_) (fun hc hres => ?_)
  · refine e_steps 1 (s' := (32, [some (.inr (.inr (some (0, 0)))), some (.inl a1), some (.inl v1), some (.inl v2)], [.inl a1], m)) rfl ?_
    refine e_if (s1 := (40, [some (.inr (.inr (some (0, 0)))), some (.inl a1), some (.inl v1), some (.inl v2)], [], m)) (s2 := (35, [some (.inr (.inr (some (0, 0)))), some (.inl a1), some (.inl v1), some (.inl v2)], [], m)) rfl hres (fun hc hres => ?_) (fun hc hres => ?_)
    · refine e_mask (L' := [none, none, none, none]) rfl ?_
      obtain rfl := Option.some.inj hres
      exact e_ret rfl rfl
    · refine e_steps 2 (s' := (37, [some (.inr (.inr (some (0, 0)))), some (.inl a1), some (.inl v1), some (.inl v2)], [.inl v2, .inl a1], m)) rfl ?_
      refine e_if (s1 := (51, [some (.inr (.inr (some (0, 0)))), some (.inl a1), some (.inl v1), some (.inl v2)], [], m)) (s2 := (40, [some (.inr (.inr (some (0, 0)))), some (.inl a1), some (.inl v1), some (.inl v2)], [], m)) rfl hres (fun hc hres => ?_) (fun hc hres => ?_)
      · refine e_steps 2 (s' := (53, [some (.inr (.inr (some (0, 0)))), some (.inl a1), some (.inl v1), some (.inl v2)], [.inl v1, .inl a1], m)) rfl ?_
        refine e_if (s1 := (71, [some (.inr (.inr (some (0, 0)))), some (.inl a1), some (.inl v1), some (.inl v2)], [], m)) (s2 := (56, [some (.inr (.inr (some (0, 0)))), some (.inl a1), some (.inl v1), some (.inl v2)], [], m)) rfl hres (fun hc hres => ?_) (fun hc hres => ?_)
        · refine e_steps 7 (s' := (84, [some (.inr (.inr (some (0, 0)))), some (.inl a1), some (.inl v1), some (.inl v2)], [.inl (a1 - v1), .inr (.inr (some (62, 4)))], m)) rfl ?_
          refine e_gd (s1 := (85, [some (.inr (.inr (some (0, 0)))), some (.inl a1), some (.inl v1), some (.inl v2)], [.inl (m 62 4 (a1 - v1).toNatClampNeg)], m)) rfl hres (fun hc hres => ?_)
          refine e_mask (L' := [none, none, none, none]) rfl ?_
          obtain rfl := Option.some.inj hres
          exact e_ret rfl rfl
        · refine e_steps 5 (s' := (67, [some (.inr (.inr (some (0, 0)))), some (.inl a1), some (.inl v1), some (.inl v2)], [.inl a1, .inr (.inr (some (62, 3)))], m)) rfl ?_
          refine e_gd (s1 := (68, [some (.inr (.inr (some (0, 0)))), some (.inl a1), some (.inl v1), some (.inl v2)], [.inl (m 62 3 a1.toNatClampNeg)], m)) rfl hres (fun hc hres => ?_)
          refine e_steps 1 (s' := (85, [some (.inr (.inr (some (0, 0)))), some (.inl a1), some (.inl v1), some (.inl v2)], [.inl (m 62 3 a1.toNatClampNeg)], m)) rfl ?_
          refine e_mask (L' := [none, none, none, none]) rfl ?_
          obtain rfl := Option.some.inj hres
          exact e_ret rfl rfl
      · refine e_mask (L' := [none, none, none, none]) rfl ?_
        obtain rfl := Option.some.inj hres
        exact e_ret rfl rfl
  · refine e_steps 1 (s' := (30, [some (.inr (.inr (some (0, 0)))), some (.inl a1), some (.inl v1), some (.inl v2)], [.inl v2], m)) rfl ?_
    obtain rfl := Option.some.inj hres
    exact e_ret rfl rfl
/-- GlassThreads.deal()I -/
def f_X11_deal  (m : mm_M) : Option (Int32 × mm_M) :=
if (m 0 0 3) = -1 then (none) else (mm_let (m 0 0 3).toNatClampNeg fun i1 =>
mm_b1 (f_X4_weigh i1 m) fun m3 =>
mm_b2 (f_X4_dealColours m3) fun r4 m5 =>
some (r4, m5))
set_option maxHeartbeats 4000000 in
set_option maxRecDepth 100000 in
theorem k_X11_deal (d : Nat) (hd : 19 ≤ d)  (m : mm_M) (r : Int32 × mm_M) (hres : f_X11_deal  m = some r) : mm_X d 29 [.inr (.inr (some (0, 0)))] m (.inl (some (.inl r.1)), r.2, 0, 0) := by
  unfold f_X11_deal at hres
  obtain ⟨d, rfl⟩ : ∃ e, d = e + 1 := ⟨d - 1, by omega⟩
  show mm_E (d + 1) 29 (0, [some (.inr (.inr (some (0, 0))))], [], m) (.inl (some (.inl r.1)), r.2, 0, 0)
  refine e_steps 5 (s' := (9, [some (.inr (.inr (some (0, 0))))], [.inr (.inr (some (0, 0))), .inr (.inr (some (13, 0))), .inr (.inr (some (9, 0)))], m)) rfl ?_
  refine e_if (s1 := (12, [some (.inr (.inr (some (0, 0))))], [.inr (.inr none), .inr (.inr (some (13, 0))), .inr (.inr (some (9, 0)))], m)) (s2 := (12, [some (.inr (.inr (some (0, 0))))], [.inr (.inr (some (2, (m 0 0 3).toNatClampNeg))), .inr (.inr (some (13, 0))), .inr (.inr (some (9, 0)))], m)) rfl hres (fun hc hres => ?_) (fun hc hres => ?_)
  · cases hres
  · refine e_let (fun (i1 : Nat) => (12, [some (.inr (.inr (some (0, 0))))], [.inr (.inr (some (2, i1))), .inr (.inr (some (13, 0))), .inr (.inr (some (9, 0)))], m)) hres (fun i1 hres => ?_)
    obtain ⟨m3, hv, hres⟩ := mm_b1_some hres
    refine e_call0 (pc := 15) (L := [some (.inr (.inr (some (0, 0))))]) (st := []) (m' := m3) (v := none) rfl (k_X4_weigh d (by omega) i1 _ _ hv) ?_
    show mm_E (d + 1) 29 (15, [some (.inr (.inr (some (0, 0))))], [], m3) (.inl (some (.inl r.1)), r.2, 0, 0)
    refine e_steps 2 (s' := (19, [some (.inr (.inr (some (0, 0))))], [.inr (.inr (some (9, 0)))], m3)) rfl ?_
    obtain ⟨r4, m5, hv, hres⟩ := mm_b2_some hres
    refine e_call0 (pc := 22) (L := [some (.inr (.inr (some (0, 0))))]) (st := []) (m' := m5) (v := some (.inl r4)) rfl (k_X4_dealColours d (by omega)  _ _ hv) ?_
    show mm_E (d + 1) 29 (22, [some (.inr (.inr (some (0, 0))))], [.inl r4], m5) (.inl (some (.inl r.1)), r.2, 0, 0)
    obtain rfl := Option.some.inj hres
    exact e_ret rfl rfl
/-- GlassThreads.dealt(I)I -/
def f_X11_dealt (a1 : Int32) (m : mm_M) : Option (Nat ⊕ (Int32)) :=
if a1 < 0 then (some (.inl 1))
else (if a1 < (m 9 0 8) then (if (m 9 0 18) ≤ a1 then (some (.inr (-1)))
else (if mm_in a1 6 then (
some (.inr (m 61 0 a1.toNatClampNeg))) else none))
else (some (.inl 1)))
set_option maxHeartbeats 4000000 in
set_option maxRecDepth 100000 in
theorem k_X11_dealt (d : Nat) (hd : 0 ≤ d) (a1 : Int32) (m : mm_M) (r : Nat ⊕ (Int32)) (hres : f_X11_dealt a1 m = some r) : mm_X d 30 [.inr (.inr (some (0, 0))), .inl a1] m (mm_th m (fun (t : Int32) => (.inl (some (.inl t)), m, 0, 0)) r) := by
  unfold f_X11_dealt at hres
  show mm_E d 30 (0, [some (.inr (.inr (some (0, 0)))), some (.inl a1)], [], m) (mm_th m (fun (t : Int32) => (.inl (some (.inl t)), m, 0, 0)) r)
  refine e_steps 1 (s' := (1, [some (.inr (.inr (some (0, 0)))), some (.inl a1)], [.inl a1], m)) rfl ?_
  refine e_if (s1 := (15, [some (.inr (.inr (some (0, 0)))), some (.inl a1)], [], m)) (s2 := (4, [some (.inr (.inr (some (0, 0)))), some (.inl a1)], [], m)) rfl hres (fun hc hres => ?_) (fun hc hres => ?_)
  · refine e_mask (L' := [none, none]) rfl ?_
    obtain rfl := Option.some.inj hres
    exact e_ret rfl rfl
  · refine e_steps 4 (s' := (12, [some (.inr (.inr (some (0, 0)))), some (.inl a1)], [.inl (m 9 0 8), .inl a1], m)) rfl ?_
    refine e_if (s1 := (26, [some (.inr (.inr (some (0, 0)))), some (.inl a1)], [], m)) (s2 := (15, [some (.inr (.inr (some (0, 0)))), some (.inl a1)], [], m)) rfl hres (fun hc hres => ?_) (fun hc hres => ?_)
    · refine e_steps 4 (s' := (34, [some (.inr (.inr (some (0, 0)))), some (.inl a1)], [.inl (m 9 0 18), .inl a1], m)) rfl ?_
      refine e_if (s1 := (49, [some (.inr (.inr (some (0, 0)))), some (.inl a1)], [], m)) (s2 := (37, [some (.inr (.inr (some (0, 0)))), some (.inl a1)], [], m)) rfl hres (fun hc hres => ?_) (fun hc hres => ?_)
      · refine e_steps 1 (s' := (50, [some (.inr (.inr (some (0, 0)))), some (.inl a1)], [.inl (-1)], m)) rfl ?_
        refine e_mask (L' := [none, none]) rfl ?_
        obtain rfl := Option.some.inj hres
        exact e_ret rfl rfl
      · refine e_steps 4 (s' := (45, [some (.inr (.inr (some (0, 0)))), some (.inl a1)], [.inl a1, .inr (.inr (some (61, 0)))], m)) rfl ?_
        refine e_gd (s1 := (46, [some (.inr (.inr (some (0, 0)))), some (.inl a1)], [.inl (m 61 0 a1.toNatClampNeg)], m)) rfl hres (fun hc hres => ?_)
        refine e_steps 1 (s' := (50, [some (.inr (.inr (some (0, 0)))), some (.inl a1)], [.inl (m 61 0 a1.toNatClampNeg)], m)) rfl ?_
        refine e_mask (L' := [none, none]) rfl ?_
        obtain rfl := Option.some.inj hres
        exact e_ret rfl rfl
    · refine e_mask (L' := [none, none]) rfl ?_
      obtain rfl := Option.some.inj hres
      exact e_ret rfl rfl
/-- GlassThreads.lost(I)I -/
def f_X11_lost (a1 : Int32) (m : mm_M) : Option (Int32) :=
mm_b1 (f_X4_lostBy a1 m) fun r1 =>
some r1
set_option maxHeartbeats 4000000 in
set_option maxRecDepth 100000 in
theorem k_X11_lost (d : Nat) (hd : 2 ≤ d) (a1 : Int32) (m : mm_M) (r : Int32) (hres : f_X11_lost a1 m = some r) : mm_X d 31 [.inr (.inr (some (0, 0))), .inl a1] m (.inl (some (.inl r)), m, 0, 0) := by
  unfold f_X11_lost at hres
  obtain ⟨d, rfl⟩ : ∃ e, d = e + 1 := ⟨d - 1, by omega⟩
  show mm_E (d + 1) 31 (0, [some (.inr (.inr (some (0, 0)))), some (.inl a1)], [], m) (.inl (some (.inl r)), m, 0, 0)
  refine e_steps 3 (s' := (5, [some (.inr (.inr (some (0, 0)))), some (.inl a1)], [.inl a1, .inr (.inr (some (9, 0)))], m)) rfl ?_
  obtain ⟨r1, hv, hres⟩ := mm_b1_some hres
  refine e_call0 (pc := 8) (L := [some (.inr (.inr (some (0, 0)))), some (.inl a1)]) (st := []) (m' := m) (v := some (.inl r1)) rfl (k_X4_lostBy d (by omega) a1 _ _ hv) ?_
  show mm_E (d + 1) 31 (8, [some (.inr (.inr (some (0, 0)))), some (.inl a1)], [.inl r1], m) (.inl (some (.inl r)), m, 0, 0)
  obtain rfl := Option.some.inj hres
  exact e_ret rfl rfl
/-- GlassThreads.worst(I)I -/
def f_X11_worst (a1 : Int32) (m : mm_M) : Option (Nat ⊕ (Int32)) :=
if a1 = 1 then (mm_b1 (f_X4_worstOf a1 m) fun r1 =>
some (.inr r1))
else (if a1 = 2 then (mm_b1 (f_X4_worstOf a1 m) fun r2 =>
some (.inr r2))
else (some (.inl 0)))
set_option maxHeartbeats 4000000 in
set_option maxRecDepth 100000 in
theorem k_X11_worst (d : Nat) (hd : 3 ≤ d) (a1 : Int32) (m : mm_M) (r : Nat ⊕ (Int32)) (hres : f_X11_worst a1 m = some r) : mm_X d 32 [.inr (.inr (some (0, 0))), .inl a1] m (mm_th m (fun (t : Int32) => (.inl (some (.inl t)), m, 0, 0)) r) := by
  unfold f_X11_worst at hres
  obtain ⟨d, rfl⟩ : ∃ e, d = e + 1 := ⟨d - 1, by omega⟩
  show mm_E (d + 1) 32 (0, [some (.inr (.inr (some (0, 0)))), some (.inl a1)], [], m) (mm_th m (fun (t : Int32) => (.inl (some (.inl t)), m, 0, 0)) r)
  refine e_steps 2 (s' := (2, [some (.inr (.inr (some (0, 0)))), some (.inl a1)], [.inl 1, .inl a1], m)) rfl ?_
  refine e_if (s1 := (21, [some (.inr (.inr (some (0, 0)))), some (.inl a1)], [], m)) (s2 := (5, [some (.inr (.inr (some (0, 0)))), some (.inl a1)], [], m)) rfl hres (fun hc hres => ?_) (fun hc hres => ?_)
  · refine e_steps 3 (s' := (26, [some (.inr (.inr (some (0, 0)))), some (.inl a1)], [.inl a1, .inr (.inr (some (9, 0)))], m)) rfl ?_
    obtain ⟨r1, hv, hres⟩ := mm_b1_some hres
    refine e_call0 (pc := 29) (L := [some (.inr (.inr (some (0, 0)))), some (.inl a1)]) (st := []) (m' := m) (v := some (.inl r1)) rfl (k_X4_worstOf d (by omega) a1 _ _ hv) ?_
    show mm_E (d + 1) 32 (29, [some (.inr (.inr (some (0, 0)))), some (.inl a1)], [.inl r1], m) (mm_th m (fun (t : Int32) => (.inl (some (.inl t)), m, 0, 0)) r)
    obtain rfl := Option.some.inj hres
    exact e_ret rfl rfl
  · refine e_steps 2 (s' := (7, [some (.inr (.inr (some (0, 0)))), some (.inl a1)], [.inl 2, .inl a1], m)) rfl ?_
    refine e_if (s1 := (21, [some (.inr (.inr (some (0, 0)))), some (.inl a1)], [], m)) (s2 := (10, [some (.inr (.inr (some (0, 0)))), some (.inl a1)], [], m)) rfl hres (fun hc hres => ?_) (fun hc hres => ?_)
    · refine e_steps 3 (s' := (26, [some (.inr (.inr (some (0, 0)))), some (.inl a1)], [.inl a1, .inr (.inr (some (9, 0)))], m)) rfl ?_
      obtain ⟨r2, hv, hres⟩ := mm_b1_some hres
      refine e_call0 (pc := 29) (L := [some (.inr (.inr (some (0, 0)))), some (.inl a1)]) (st := []) (m' := m) (v := some (.inl r2)) rfl (k_X4_worstOf d (by omega) a1 _ _ hv) ?_
      show mm_E (d + 1) 32 (29, [some (.inr (.inr (some (0, 0)))), some (.inl a1)], [.inl r2], m) (mm_th m (fun (t : Int32) => (.inl (some (.inl t)), m, 0, 0)) r)
      obtain rfl := Option.some.inj hres
      exact e_ret rfl rfl
    · obtain rfl := Option.some.inj hres
      exact e_ret rfl rfl
/-- GlassThreads.sheet(II)I -/
def f_X11_sheet (a1 : Int32) (a2 : Int32) (m : mm_M) : Option (Int32 × mm_M) :=
if 8 ≤ (m 0 0 15) then (some ((-1), m))
else (if a1 < 0 then (some ((-1), m))
else (if a1 ≤ 2 then (if a2 < (-1) then (some ((-2), m))
else (if a2 ≤ 24 then (if mm_in (m 0 0 15) 8 then (
mm_let (0 + (m 0 0 15).toNatClampNeg) fun i1 =>
mm_let (mm_w m 11 i1 1 a1) fun m2 =>
if mm_in (m2 0 0 15) 8 then (
mm_let (0 + (m2 0 0 15).toNatClampNeg) fun i3 =>
mm_let (mm_w m2 11 i3 2 a2) fun m4 =>
mm_let (mm_w m4 0 0 15 ((m4 0 0 15) + 1)) fun m5 =>
some (((m5 0 0 15) - 1), m5)) else none) else none)
else (some ((-2), m))))
else (some ((-1), m))))
set_option maxHeartbeats 4000000 in
set_option maxRecDepth 100000 in
theorem k_X11_sheet (d : Nat) (hd : 0 ≤ d) (a1 : Int32) (a2 : Int32) (m : mm_M) (r : Int32 × mm_M) (hres : f_X11_sheet a1 a2 m = some r) : mm_X d 33 [.inr (.inr (some (0, 0))), .inl a1, .inl a2] m (.inl (some (.inl r.1)), r.2, 0, 0) := by
  unfold f_X11_sheet at hres
  show mm_E d 33 (0, [some (.inr (.inr (some (0, 0)))), some (.inl a1), some (.inl a2)], [], m) (.inl (some (.inl r.1)), r.2, 0, 0)
  refine e_steps 3 (s' := (6, [some (.inr (.inr (some (0, 0)))), some (.inl a1), some (.inl a2)], [.inl 8, .inl (m 0 0 15)], m)) rfl ?_
  refine e_if (s1 := (18, [some (.inr (.inr (some (0, 0)))), some (.inl a1), some (.inl a2)], [], m)) (s2 := (9, [some (.inr (.inr (some (0, 0)))), some (.inl a1), some (.inl a2)], [], m)) rfl hres (fun hc hres => ?_) (fun hc hres => ?_)
  · refine e_mask (L' := [none, none, none]) rfl ?_
    refine e_steps 1 (s' := (19, [none, none, none], [.inl (-1)], m)) rfl ?_
    obtain rfl := Option.some.inj hres
    exact e_ret rfl rfl
  · refine e_steps 1 (s' := (10, [some (.inr (.inr (some (0, 0)))), some (.inl a1), some (.inl a2)], [.inl a1], m)) rfl ?_
    refine e_if (s1 := (18, [some (.inr (.inr (some (0, 0)))), some (.inl a1), some (.inl a2)], [], m)) (s2 := (13, [some (.inr (.inr (some (0, 0)))), some (.inl a1), some (.inl a2)], [], m)) rfl hres (fun hc hres => ?_) (fun hc hres => ?_)
    · refine e_mask (L' := [none, none, none]) rfl ?_
      refine e_steps 1 (s' := (19, [none, none, none], [.inl (-1)], m)) rfl ?_
      obtain rfl := Option.some.inj hres
      exact e_ret rfl rfl
    · refine e_steps 2 (s' := (15, [some (.inr (.inr (some (0, 0)))), some (.inl a1), some (.inl a2)], [.inl 2, .inl a1], m)) rfl ?_
      refine e_if (s1 := (20, [some (.inr (.inr (some (0, 0)))), some (.inl a1), some (.inl a2)], [], m)) (s2 := (18, [some (.inr (.inr (some (0, 0)))), some (.inl a1), some (.inl a2)], [], m)) rfl hres (fun hc hres => ?_) (fun hc hres => ?_)
      · refine e_steps 2 (s' := (22, [some (.inr (.inr (some (0, 0)))), some (.inl a1), some (.inl a2)], [.inl (-1), .inl a2], m)) rfl ?_
        refine e_if (s1 := (31, [some (.inr (.inr (some (0, 0)))), some (.inl a1), some (.inl a2)], [], m)) (s2 := (25, [some (.inr (.inr (some (0, 0)))), some (.inl a1), some (.inl a2)], [], m)) rfl hres (fun hc hres => ?_) (fun hc hres => ?_)
        · refine e_mask (L' := [none, none, none]) rfl ?_
          refine e_steps 1 (s' := (33, [none, none, none], [.inl (-2)], m)) rfl ?_
          obtain rfl := Option.some.inj hres
          exact e_ret rfl rfl
        · refine e_steps 2 (s' := (28, [some (.inr (.inr (some (0, 0)))), some (.inl a1), some (.inl a2)], [.inl 24, .inl a2], m)) rfl ?_
          refine e_if (s1 := (34, [some (.inr (.inr (some (0, 0)))), some (.inl a1), some (.inl a2)], [], m)) (s2 := (31, [some (.inr (.inr (some (0, 0)))), some (.inl a1), some (.inl a2)], [], m)) rfl hres (fun hc hres => ?_) (fun hc hres => ?_)
          · refine e_steps 4 (s' := (42, [some (.inr (.inr (some (0, 0)))), some (.inl a1), some (.inl a2)], [.inl (m 0 0 15), .inr (.inr (some (14, 0)))], m)) rfl ?_
            refine e_gd (s1 := (43, [some (.inr (.inr (some (0, 0)))), some (.inl a1), some (.inl a2)], [.inr (.inr (some (11, (0 + (m 0 0 15).toNatClampNeg))))], m)) rfl hres (fun hc hres => ?_)
            refine e_let (fun (i1 : Nat) => (43, [some (.inr (.inr (some (0, 0)))), some (.inl a1), some (.inl a2)], [.inr (.inr (some (11, i1)))], m)) hres (fun i1 hres => ?_)
            refine e_steps 2 (s' := (47, [some (.inr (.inr (some (0, 0)))), some (.inl a1), some (.inl a2)], [], (mm_w m 11 i1 1 a1))) rfl ?_
            refine e_let (fun (m2 : mm_M) => (47, [some (.inr (.inr (some (0, 0)))), some (.inl a1), some (.inl a2)], [], m2)) hres (fun m2 hres => ?_)
            refine e_steps 4 (s' := (55, [some (.inr (.inr (some (0, 0)))), some (.inl a1), some (.inl a2)], [.inl (m2 0 0 15), .inr (.inr (some (14, 0)))], m2)) rfl ?_
            refine e_gd (s1 := (56, [some (.inr (.inr (some (0, 0)))), some (.inl a1), some (.inl a2)], [.inr (.inr (some (11, (0 + (m2 0 0 15).toNatClampNeg))))], m2)) rfl hres (fun hc hres => ?_)
            refine e_let (fun (i3 : Nat) => (56, [some (.inr (.inr (some (0, 0)))), some (.inl a1), some (.inl a2)], [.inr (.inr (some (11, i3)))], m2)) hres (fun i3 hres => ?_)
            refine e_steps 2 (s' := (60, [some (.inr (.inr (some (0, 0)))), some (.inl a1), some (.inl a2)], [], (mm_w m2 11 i3 2 a2))) rfl ?_
            refine e_let (fun (m4 : mm_M) => (60, [some (.inr (.inr (some (0, 0)))), some (.inl a1), some (.inl a2)], [], m4)) hres (fun m4 hres => ?_)
            refine e_steps 6 (s' := (70, [some (.inr (.inr (some (0, 0)))), some (.inl a1), some (.inl a2)], [], (mm_w m4 0 0 15 ((m4 0 0 15) + 1)))) rfl ?_
            refine e_let (fun (m5 : mm_M) => (70, [some (.inr (.inr (some (0, 0)))), some (.inl a1), some (.inl a2)], [], m5)) hres (fun m5 hres => ?_)
            refine e_steps 4 (s' := (76, [some (.inr (.inr (some (0, 0)))), some (.inl a1), some (.inl a2)], [.inl ((m5 0 0 15) - 1)], m5)) rfl ?_
            obtain rfl := Option.some.inj hres
            exact e_ret rfl rfl
          · refine e_mask (L' := [none, none, none]) rfl ?_
            refine e_steps 1 (s' := (33, [none, none, none], [.inl (-2)], m)) rfl ?_
            obtain rfl := Option.some.inj hres
            exact e_ret rfl rfl
      · refine e_mask (L' := [none, none, none]) rfl ?_
        refine e_steps 1 (s' := (19, [none, none, none], [.inl (-1)], m)) rfl ?_
        obtain rfl := Option.some.inj hres
        exact e_ret rfl rfl
/-- GlassThreads.sheetOf(I)LGlassThreads$Sheet; -/
def f_X11_sheetOf (a1 : Int32) (m : mm_M) : Option (Nat ⊕ (Nat)) :=
if a1 < 0 then (some (.inl 1))
else (if a1 < (m 0 0 15) then (if mm_in a1 8 then (
mm_let (0 + a1.toNatClampNeg) fun i1 =>
some (.inr i1)) else none)
else (some (.inl 1)))
set_option maxHeartbeats 4000000 in
set_option maxRecDepth 100000 in
theorem k_X11_sheetOf (d : Nat) (hd : 0 ≤ d) (a1 : Int32) (m : mm_M) (r : Nat ⊕ (Nat)) (hres : f_X11_sheetOf a1 m = some r) : mm_X d 39 [.inr (.inr (some (0, 0))), .inl a1] m (mm_th m (fun (t : Nat) => (.inl (some (.inr (.inr (some (11, t))))), m, 0, 0)) r) := by
  unfold f_X11_sheetOf at hres
  show mm_E d 39 (0, [some (.inr (.inr (some (0, 0)))), some (.inl a1)], [], m) (mm_th m (fun (t : Nat) => (.inl (some (.inr (.inr (some (11, t))))), m, 0, 0)) r)
  refine e_steps 1 (s' := (1, [some (.inr (.inr (some (0, 0)))), some (.inl a1)], [.inl a1], m)) rfl ?_
  refine e_if (s1 := (12, [some (.inr (.inr (some (0, 0)))), some (.inl a1)], [], m)) (s2 := (4, [some (.inr (.inr (some (0, 0)))), some (.inl a1)], [], m)) rfl hres (fun hc hres => ?_) (fun hc hres => ?_)
  · refine e_mask (L' := [none, none]) rfl ?_
    obtain rfl := Option.some.inj hres
    exact e_ret rfl rfl
  · refine e_steps 3 (s' := (9, [some (.inr (.inr (some (0, 0)))), some (.inl a1)], [.inl (m 0 0 15), .inl a1], m)) rfl ?_
    refine e_if (s1 := (23, [some (.inr (.inr (some (0, 0)))), some (.inl a1)], [], m)) (s2 := (12, [some (.inr (.inr (some (0, 0)))), some (.inl a1)], [], m)) rfl hres (fun hc hres => ?_) (fun hc hres => ?_)
    · refine e_steps 3 (s' := (28, [some (.inr (.inr (some (0, 0)))), some (.inl a1)], [.inl a1, .inr (.inr (some (14, 0)))], m)) rfl ?_
      refine e_gd (s1 := (29, [some (.inr (.inr (some (0, 0)))), some (.inl a1)], [.inr (.inr (some (11, (0 + a1.toNatClampNeg))))], m)) rfl hres (fun hc hres => ?_)
      refine e_let (fun (i1 : Nat) => (29, [some (.inr (.inr (some (0, 0)))), some (.inl a1)], [.inr (.inr (some (11, i1)))], m)) hres (fun i1 hres => ?_)
      obtain rfl := Option.some.inj hres
      exact e_ret rfl rfl
    · refine e_mask (L' := [none, none]) rfl ?_
      obtain rfl := Option.some.inj hres
      exact e_ret rfl rfl
/-- GlassThreads.write(III)I -/
def f_X11_write (a1 : Int32) (a2 : Int32) (a3 : Int32) (m : mm_M) : Option (Nat ⊕ (Int32 × mm_M)) :=
(mm_bx (f_X11_sheetOf a1 m) fun r1 =>
if (m 11 r1 2) ≠ (-1) then (if a2 < 0 then (some (.inr (3, m)))
else (if a2 < (m 11 r1 2) then (mm_b1 (f_X7_canHold r1 a3 m) fun r2 =>
if r2 ≠ 0 then (if mm_in a2 24 then (
mm_let (mm_w m 63 r1 a2.toNatClampNeg a3) fun m3 =>
some (.inr (0, m3))) else none)
else (some (.inr (4, m))))
else (some (.inr (3, m)))))
else (some (.inr (1, m))))
set_option maxHeartbeats 4000000 in
set_option maxRecDepth 100000 in
theorem k_X11_write (d : Nat) (hd : 1 ≤ d) (a1 : Int32) (a2 : Int32) (a3 : Int32) (m : mm_M) (r : Nat ⊕ (Int32 × mm_M)) (hres : f_X11_write a1 a2 a3 m = some r) : mm_X d 34 [.inr (.inr (some (0, 0))), .inl a1, .inl a2, .inl a3] m (mm_th m (fun (t : Int32 × mm_M) => (.inl (some (.inl t.1)), t.2, 0, 0)) r) := by
  unfold f_X11_write at hres
  obtain ⟨d, rfl⟩ : ∃ e, d = e + 1 := ⟨d - 1, by omega⟩
  show mm_E (d + 1) 34 (0, [some (.inr (.inr (some (0, 0)))), some (.inl a1), some (.inl a2), some (.inl a3), none], [], m) (mm_th m (fun (t : Int32 × mm_M) => (.inl (some (.inl t.1)), t.2, 0, 0)) r)
  refine e_steps 2 (s' := (2, [some (.inr (.inr (some (0, 0)))), some (.inl a1), some (.inl a2), some (.inl a3), none], [.inl a1, .inr (.inr (some (0, 0)))], m)) rfl ?_
  rcases mm_bx_some hres with ⟨e9, hv, rfl⟩ | ⟨r1, hv, hres⟩
  · exact e_callx (pc := 5) (L := [some (.inr (.inr (some (0, 0)))), some (.inl a1), some (.inl a2), some (.inl a3), none]) (st := []) rfl rfl (k_X11_sheetOf d (by omega) a1 _ _ hv)
  refine e_call0 (pc := 5) (L := [some (.inr (.inr (some (0, 0)))), some (.inl a1), some (.inl a2), some (.inl a3), none]) (st := []) (m' := m) (v := some (.inr (.inr (some (11, r1))))) rfl (k_X11_sheetOf d (by omega) a1 _ _ hv) ?_
  show mm_E (d + 1) 34 (5, [some (.inr (.inr (some (0, 0)))), some (.inl a1), some (.inl a2), some (.inl a3), none], [.inr (.inr (some (11, r1)))], m) (mm_th m (fun (t : Int32 × mm_M) => (.inl (some (.inl t.1)), t.2, 0, 0)) r)
  refine e_steps 4 (s' := (13, [some (.inr (.inr (some (0, 0)))), some (.inl a1), some (.inl a2), some (.inl a3), some (.inr (.inr (some (11, r1))))], [.inl (-1), .inl (m 11 r1 2)], m)) rfl ?_
  refine e_if (s1 := (18, [some (.inr (.inr (some (0, 0)))), some (.inl a1), some (.inl a2), some (.inl a3), some (.inr (.inr (some (11, r1))))], [], m)) (s2 := (16, [some (.inr (.inr (some (0, 0)))), some (.inl a1), some (.inl a2), some (.inl a3), some (.inr (.inr (some (11, r1))))], [], m)) rfl hres (fun hc hres => ?_) (fun hc hres => ?_)
  · refine e_steps 1 (s' := (19, [some (.inr (.inr (some (0, 0)))), some (.inl a1), some (.inl a2), some (.inl a3), some (.inr (.inr (some (11, r1))))], [.inl a2], m)) rfl ?_
    refine e_if (s1 := (31, [some (.inr (.inr (some (0, 0)))), some (.inl a1), some (.inl a2), some (.inl a3), some (.inr (.inr (some (11, r1))))], [], m)) (s2 := (22, [some (.inr (.inr (some (0, 0)))), some (.inl a1), some (.inl a2), some (.inl a3), some (.inr (.inr (some (11, r1))))], [], m)) rfl hres (fun hc hres => ?_) (fun hc hres => ?_)
    · refine e_mask (L' := [none, none, none, none, none]) rfl ?_
      refine e_steps 1 (s' := (32, [none, none, none, none, none], [.inl 3], m)) rfl ?_
      obtain rfl := Option.some.inj hres
      exact e_ret rfl rfl
    · refine e_steps 3 (s' := (28, [some (.inr (.inr (some (0, 0)))), some (.inl a1), some (.inl a2), some (.inl a3), some (.inr (.inr (some (11, r1))))], [.inl (m 11 r1 2), .inl a2], m)) rfl ?_
      refine e_if (s1 := (33, [some (.inr (.inr (some (0, 0)))), some (.inl a1), some (.inl a2), some (.inl a3), some (.inr (.inr (some (11, r1))))], [], m)) (s2 := (31, [some (.inr (.inr (some (0, 0)))), some (.inl a1), some (.inl a2), some (.inl a3), some (.inr (.inr (some (11, r1))))], [], m)) rfl hres (fun hc hres => ?_) (fun hc hres => ?_)
      · refine e_steps 2 (s' := (36, [some (.inr (.inr (some (0, 0)))), some (.inl a1), some (.inl a2), some (.inl a3), some (.inr (.inr (some (11, r1))))], [.inl a3, .inr (.inr (some (11, r1)))], m)) rfl ?_
        obtain ⟨r2, hv, hres⟩ := mm_b1_some hres
        refine e_call0 (pc := 39) (L := [some (.inr (.inr (some (0, 0)))), some (.inl a1), some (.inl a2), some (.inl a3), some (.inr (.inr (some (11, r1))))]) (st := []) (m' := m) (v := some (.inl r2)) rfl (k_X7_canHold d (by omega) r1 a3 _ _ hv) ?_
        show mm_E (d + 1) 34 (39, [some (.inr (.inr (some (0, 0)))), some (.inl a1), some (.inl a2), some (.inl a3), some (.inr (.inr (some (11, r1))))], [.inl r2], m) (mm_th m (fun (t : Int32 × mm_M) => (.inl (some (.inl t.1)), t.2, 0, 0)) r)
        refine e_if (s1 := (44, [some (.inr (.inr (some (0, 0)))), some (.inl a1), some (.inl a2), some (.inl a3), some (.inr (.inr (some (11, r1))))], [], m)) (s2 := (42, [some (.inr (.inr (some (0, 0)))), some (.inl a1), some (.inl a2), some (.inl a3), some (.inr (.inr (some (11, r1))))], [], m)) rfl hres (fun hc hres => ?_) (fun hc hres => ?_)
        · refine e_steps 4 (s' := (51, [some (.inr (.inr (some (0, 0)))), some (.inl a1), some (.inl a2), some (.inl a3), some (.inr (.inr (some (11, r1))))], [.inl a3, .inl a2, .inr (.inr (some (63, r1)))], m)) rfl ?_
          refine e_gd (s1 := (52, [some (.inr (.inr (some (0, 0)))), some (.inl a1), some (.inl a2), some (.inl a3), some (.inr (.inr (some (11, r1))))], [], (mm_w m 63 r1 a2.toNatClampNeg a3))) rfl hres (fun hc hres => ?_)
          refine e_let (fun (m3 : mm_M) => (52, [some (.inr (.inr (some (0, 0)))), some (.inl a1), some (.inl a2), some (.inl a3), some (.inr (.inr (some (11, r1))))], [], m3)) hres (fun m3 hres => ?_)
          refine e_steps 1 (s' := (53, [some (.inr (.inr (some (0, 0)))), some (.inl a1), some (.inl a2), some (.inl a3), some (.inr (.inr (some (11, r1))))], [.inl 0], m3)) rfl ?_
          obtain rfl := Option.some.inj hres
          exact e_ret rfl rfl
        · refine e_steps 1 (s' := (43, [some (.inr (.inr (some (0, 0)))), some (.inl a1), some (.inl a2), some (.inl a3), some (.inr (.inr (some (11, r1))))], [.inl 4], m)) rfl ?_
          obtain rfl := Option.some.inj hres
          exact e_ret rfl rfl
      · refine e_mask (L' := [none, none, none, none, none]) rfl ?_
        refine e_steps 1 (s' := (32, [none, none, none, none, none], [.inl 3], m)) rfl ?_
        obtain rfl := Option.some.inj hres
        exact e_ret rfl rfl
  · refine e_steps 1 (s' := (17, [some (.inr (.inr (some (0, 0)))), some (.inl a1), some (.inl a2), some (.inl a3), some (.inr (.inr (some (11, r1))))], [.inl 1], m)) rfl ?_
    obtain rfl := Option.some.inj hres
    exact e_ret rfl rfl
/-- GlassThreads.copy(IIIII)I -/
def f_X11_copy (a1 : Int32) (a2 : Int32) (a3 : Int32) (a4 : Int32) (a5 : Int32) (m : mm_M) : Option (Nat ⊕ (Int32 × mm_M)) :=
(mm_bx (f_X11_sheetOf a1 m) fun r1 =>
(mm_bx (f_X11_sheetOf a3 m) fun r2 =>
if (m 11 r1 2) = (-1) then (some (.inr (1, m)))
else (if (m 11 r2 2) ≠ (-1) then (if (m 11 r1 1) = (m 11 r2 1) then (mm_b1 (f_X7_hasPart r1 a2 a5 m) fun r3 =>
if r3 = 0 then (some (.inr (3, m)))
else (mm_b1 (f_X7_hasPart r2 a4 a5 m) fun r4 =>
if r4 ≠ 0 then (if (0 ≤ a2 ∧ 0 ≤ a4 ∧ 0 ≤ a5) ∧ a2.toNatClampNeg + a5.toNatClampNeg ≤ 24 ∧ a4.toNatClampNeg + a5.toNatClampNeg ≤ 24 then (
mm_let (mm_wa m 63 r2 (va_cpy (m 63 r1) (m 63 r2) a2.toNatClampNeg a4.toNatClampNeg a5.toNatClampNeg)) fun m5 =>
some (.inr (0, m5))) else none)
else (some (.inr (3, m)))))
else (some (.inr (2, m))))
else (some (.inr (1, m))))))
set_option maxHeartbeats 4000000 in
set_option maxRecDepth 100000 in
theorem k_X11_copy (d : Nat) (hd : 1 ≤ d) (a1 : Int32) (a2 : Int32) (a3 : Int32) (a4 : Int32) (a5 : Int32) (m : mm_M) (r : Nat ⊕ (Int32 × mm_M)) (hres : f_X11_copy a1 a2 a3 a4 a5 m = some r) : mm_X d 35 [.inr (.inr (some (0, 0))), .inl a1, .inl a2, .inl a3, .inl a4, .inl a5] m (mm_th m (fun (t : Int32 × mm_M) => (.inl (some (.inl t.1)), t.2, 0, 0)) r) := by
  unfold f_X11_copy at hres
  obtain ⟨d, rfl⟩ : ∃ e, d = e + 1 := ⟨d - 1, by omega⟩
  show mm_E (d + 1) 35 (0, [some (.inr (.inr (some (0, 0)))), some (.inl a1), some (.inl a2), some (.inl a3), some (.inl a4), some (.inl a5), none, none], [], m) (mm_th m (fun (t : Int32 × mm_M) => (.inl (some (.inl t.1)), t.2, 0, 0)) r)
  refine e_steps 2 (s' := (2, [some (.inr (.inr (some (0, 0)))), some (.inl a1), some (.inl a2), some (.inl a3), some (.inl a4), some (.inl a5), none, none], [.inl a1, .inr (.inr (some (0, 0)))], m)) rfl ?_
  rcases mm_bx_some hres with ⟨e9, hv, rfl⟩ | ⟨r1, hv, hres⟩
  · exact e_callx (pc := 5) (L := [some (.inr (.inr (some (0, 0)))), some (.inl a1), some (.inl a2), some (.inl a3), some (.inl a4), some (.inl a5), none, none]) (st := []) rfl rfl (k_X11_sheetOf d (by omega) a1 _ _ hv)
  refine e_call0 (pc := 5) (L := [some (.inr (.inr (some (0, 0)))), some (.inl a1), some (.inl a2), some (.inl a3), some (.inl a4), some (.inl a5), none, none]) (st := []) (m' := m) (v := some (.inr (.inr (some (11, r1))))) rfl (k_X11_sheetOf d (by omega) a1 _ _ hv) ?_
  show mm_E (d + 1) 35 (5, [some (.inr (.inr (some (0, 0)))), some (.inl a1), some (.inl a2), some (.inl a3), some (.inl a4), some (.inl a5), none, none], [.inr (.inr (some (11, r1)))], m) (mm_th m (fun (t : Int32 × mm_M) => (.inl (some (.inl t.1)), t.2, 0, 0)) r)
  refine e_steps 3 (s' := (9, [some (.inr (.inr (some (0, 0)))), some (.inl a1), some (.inl a2), some (.inl a3), some (.inl a4), some (.inl a5), some (.inr (.inr (some (11, r1)))), none], [.inl a3, .inr (.inr (some (0, 0)))], m)) rfl ?_
  rcases mm_bx_some hres with ⟨e9, hv, rfl⟩ | ⟨r2, hv, hres⟩
  · exact e_callx (pc := 12) (L := [some (.inr (.inr (some (0, 0)))), some (.inl a1), some (.inl a2), some (.inl a3), some (.inl a4), some (.inl a5), some (.inr (.inr (some (11, r1)))), none]) (st := []) rfl rfl (k_X11_sheetOf d (by omega) a3 _ _ hv)
  refine e_call0 (pc := 12) (L := [some (.inr (.inr (some (0, 0)))), some (.inl a1), some (.inl a2), some (.inl a3), some (.inl a4), some (.inl a5), some (.inr (.inr (some (11, r1)))), none]) (st := []) (m' := m) (v := some (.inr (.inr (some (11, r2))))) rfl (k_X11_sheetOf d (by omega) a3 _ _ hv) ?_
  show mm_E (d + 1) 35 (12, [some (.inr (.inr (some (0, 0)))), some (.inl a1), some (.inl a2), some (.inl a3), some (.inl a4), some (.inl a5), some (.inr (.inr (some (11, r1)))), none], [.inr (.inr (some (11, r2)))], m) (mm_th m (fun (t : Int32 × mm_M) => (.inl (some (.inl t.1)), t.2, 0, 0)) r)
  refine e_steps 4 (s' := (20, [some (.inr (.inr (some (0, 0)))), some (.inl a1), some (.inl a2), some (.inl a3), some (.inl a4), some (.inl a5), some (.inr (.inr (some (11, r1)))), some (.inr (.inr (some (11, r2))))], [.inl (-1), .inl (m 11 r1 2)], m)) rfl ?_
  refine e_if (s1 := (32, [some (.inr (.inr (some (0, 0)))), some (.inl a1), some (.inl a2), some (.inl a3), some (.inl a4), some (.inl a5), some (.inr (.inr (some (11, r1)))), some (.inr (.inr (some (11, r2))))], [], m)) (s2 := (23, [some (.inr (.inr (some (0, 0)))), some (.inl a1), some (.inl a2), some (.inl a3), some (.inl a4), some (.inl a5), some (.inr (.inr (some (11, r1)))), some (.inr (.inr (some (11, r2))))], [], m)) rfl hres (fun hc hres => ?_) (fun hc hres => ?_)
  · refine e_mask (L' := [none, none, none, none, none, none, none, none]) rfl ?_
    refine e_steps 1 (s' := (33, [none, none, none, none, none, none, none, none], [.inl 1], m)) rfl ?_
    obtain rfl := Option.some.inj hres
    exact e_ret rfl rfl
  · refine e_steps 3 (s' := (29, [some (.inr (.inr (some (0, 0)))), some (.inl a1), some (.inl a2), some (.inl a3), some (.inl a4), some (.inl a5), some (.inr (.inr (some (11, r1)))), some (.inr (.inr (some (11, r2))))], [.inl (-1), .inl (m 11 r2 2)], m)) rfl ?_
    refine e_if (s1 := (34, [some (.inr (.inr (some (0, 0)))), some (.inl a1), some (.inl a2), some (.inl a3), some (.inl a4), some (.inl a5), some (.inr (.inr (some (11, r1)))), some (.inr (.inr (some (11, r2))))], [], m)) (s2 := (32, [some (.inr (.inr (some (0, 0)))), some (.inl a1), some (.inl a2), some (.inl a3), some (.inl a4), some (.inl a5), some (.inr (.inr (some (11, r1)))), some (.inr (.inr (some (11, r2))))], [], m)) rfl hres (fun hc hres => ?_) (fun hc hres => ?_)
    · refine e_steps 4 (s' := (44, [some (.inr (.inr (some (0, 0)))), some (.inl a1), some (.inl a2), some (.inl a3), some (.inl a4), some (.inl a5), some (.inr (.inr (some (11, r1)))), some (.inr (.inr (some (11, r2))))], [.inl (m 11 r2 1), .inl (m 11 r1 1)], m)) rfl ?_
      refine e_if (s1 := (49, [some (.inr (.inr (some (0, 0)))), some (.inl a1), some (.inl a2), some (.inl a3), some (.inl a4), some (.inl a5), some (.inr (.inr (some (11, r1)))), some (.inr (.inr (some (11, r2))))], [], m)) (s2 := (47, [some (.inr (.inr (some (0, 0)))), some (.inl a1), some (.inl a2), some (.inl a3), some (.inl a4), some (.inl a5), some (.inr (.inr (some (11, r1)))), some (.inr (.inr (some (11, r2))))], [], m)) rfl hres (fun hc hres => ?_) (fun hc hres => ?_)
      · refine e_steps 3 (s' := (54, [some (.inr (.inr (some (0, 0)))), some (.inl a1), some (.inl a2), some (.inl a3), some (.inl a4), some (.inl a5), some (.inr (.inr (some (11, r1)))), some (.inr (.inr (some (11, r2))))], [.inl a5, .inl a2, .inr (.inr (some (11, r1)))], m)) rfl ?_
        obtain ⟨r3, hv, hres⟩ := mm_b1_some hres
        refine e_call0 (pc := 57) (L := [some (.inr (.inr (some (0, 0)))), some (.inl a1), some (.inl a2), some (.inl a3), some (.inl a4), some (.inl a5), some (.inr (.inr (some (11, r1)))), some (.inr (.inr (some (11, r2))))]) (st := []) (m' := m) (v := some (.inl r3)) rfl (k_X7_hasPart d (by omega) r1 a2 a5 _ _ hv) ?_
        show mm_E (d + 1) 35 (57, [some (.inr (.inr (some (0, 0)))), some (.inl a1), some (.inl a2), some (.inl a3), some (.inl a4), some (.inl a5), some (.inr (.inr (some (11, r1)))), some (.inr (.inr (some (11, r2))))], [.inl r3], m) (mm_th m (fun (t : Int32 × mm_M) => (.inl (some (.inl t.1)), t.2, 0, 0)) r)
        refine e_if (s1 := (72, [some (.inr (.inr (some (0, 0)))), some (.inl a1), some (.inl a2), some (.inl a3), some (.inl a4), some (.inl a5), some (.inr (.inr (some (11, r1)))), some (.inr (.inr (some (11, r2))))], [], m)) (s2 := (60, [some (.inr (.inr (some (0, 0)))), some (.inl a1), some (.inl a2), some (.inl a3), some (.inl a4), some (.inl a5), some (.inr (.inr (some (11, r1)))), some (.inr (.inr (some (11, r2))))], [], m)) rfl hres (fun hc hres => ?_) (fun hc hres => ?_)
        · refine e_mask (L' := [none, none, none, none, none, none, none, none]) rfl ?_
          refine e_steps 1 (s' := (73, [none, none, none, none, none, none, none, none], [.inl 3], m)) rfl ?_
          obtain rfl := Option.some.inj hres
          exact e_ret rfl rfl
        · refine e_steps 3 (s' := (66, [some (.inr (.inr (some (0, 0)))), some (.inl a1), some (.inl a2), some (.inl a3), some (.inl a4), some (.inl a5), some (.inr (.inr (some (11, r1)))), some (.inr (.inr (some (11, r2))))], [.inl a5, .inl a4, .inr (.inr (some (11, r2)))], m)) rfl ?_
          obtain ⟨r4, hv, hres⟩ := mm_b1_some hres
          refine e_call0 (pc := 69) (L := [some (.inr (.inr (some (0, 0)))), some (.inl a1), some (.inl a2), some (.inl a3), some (.inl a4), some (.inl a5), some (.inr (.inr (some (11, r1)))), some (.inr (.inr (some (11, r2))))]) (st := []) (m' := m) (v := some (.inl r4)) rfl (k_X7_hasPart d (by omega) r2 a4 a5 _ _ hv) ?_
          show mm_E (d + 1) 35 (69, [some (.inr (.inr (some (0, 0)))), some (.inl a1), some (.inl a2), some (.inl a3), some (.inl a4), some (.inl a5), some (.inr (.inr (some (11, r1)))), some (.inr (.inr (some (11, r2))))], [.inl r4], m) (mm_th m (fun (t : Int32 × mm_M) => (.inl (some (.inl t.1)), t.2, 0, 0)) r)
          refine e_if (s1 := (74, [some (.inr (.inr (some (0, 0)))), some (.inl a1), some (.inl a2), some (.inl a3), some (.inl a4), some (.inl a5), some (.inr (.inr (some (11, r1)))), some (.inr (.inr (some (11, r2))))], [], m)) (s2 := (72, [some (.inr (.inr (some (0, 0)))), some (.inl a1), some (.inl a2), some (.inl a3), some (.inl a4), some (.inl a5), some (.inr (.inr (some (11, r1)))), some (.inr (.inr (some (11, r2))))], [], m)) rfl hres (fun hc hres => ?_) (fun hc hres => ?_)
          · refine e_steps 7 (s' := (89, [some (.inr (.inr (some (0, 0)))), some (.inl a1), some (.inl a2), some (.inl a3), some (.inl a4), some (.inl a5), some (.inr (.inr (some (11, r1)))), some (.inr (.inr (some (11, r2))))], [.inl a5, .inl a4, .inr (.inr (some (63, r2))), .inl a2, .inr (.inr (some (63, r1)))], m)) rfl ?_
            refine e_gd (s1 := (92, [some (.inr (.inr (some (0, 0)))), some (.inl a1), some (.inl a2), some (.inl a3), some (.inl a4), some (.inl a5), some (.inr (.inr (some (11, r1)))), some (.inr (.inr (some (11, r2))))], [], (mm_wa m 63 r2 (va_cpy (m 63 r1) (m 63 r2) a2.toNatClampNeg a4.toNatClampNeg a5.toNatClampNeg)))) rfl hres (fun hc hres => ?_)
            refine e_let (fun (m5 : mm_M) => (92, [some (.inr (.inr (some (0, 0)))), some (.inl a1), some (.inl a2), some (.inl a3), some (.inl a4), some (.inl a5), some (.inr (.inr (some (11, r1)))), some (.inr (.inr (some (11, r2))))], [], m5)) hres (fun m5 hres => ?_)
            refine e_steps 1 (s' := (93, [some (.inr (.inr (some (0, 0)))), some (.inl a1), some (.inl a2), some (.inl a3), some (.inl a4), some (.inl a5), some (.inr (.inr (some (11, r1)))), some (.inr (.inr (some (11, r2))))], [.inl 0], m5)) rfl ?_
            obtain rfl := Option.some.inj hres
            exact e_ret rfl rfl
          · refine e_mask (L' := [none, none, none, none, none, none, none, none]) rfl ?_
            refine e_steps 1 (s' := (73, [none, none, none, none, none, none, none, none], [.inl 3], m)) rfl ?_
            obtain rfl := Option.some.inj hres
            exact e_ret rfl rfl
      · refine e_steps 1 (s' := (48, [some (.inr (.inr (some (0, 0)))), some (.inl a1), some (.inl a2), some (.inl a3), some (.inl a4), some (.inl a5), some (.inr (.inr (some (11, r1)))), some (.inr (.inr (some (11, r2))))], [.inl 2], m)) rfl ?_
        obtain rfl := Option.some.inj hres
        exact e_ret rfl rfl
    · refine e_mask (L' := [none, none, none, none, none, none, none, none]) rfl ?_
      refine e_steps 1 (s' := (33, [none, none, none, none, none, none, none, none], [.inl 1], m)) rfl ?_
      obtain rfl := Option.some.inj hres
      exact e_ret rfl rfl
/-- GlassThreads.rowOf(III)I -/
def f_X11_rowOf (a1 : Int32) (a2 : Int32) (a3 : Int32) (m : mm_M) : Option (Nat ⊕ (Int32 × mm_M)) :=
(mm_bx (f_X11_sheetOf a1 m) fun r1 =>
if a3 < 0 then (some (.inl 0))
else (if a3 ≤ 8 then (if (m 11 r1 2) ≠ (-1) then (mm_b1 (f_X7_hasPart r1 a2 (a3 * 3) m) fun r2 =>
if r2 ≠ 0 then (mm_b1 (f_X7_tellsRow r1 a2 a3 m) fun r3 =>
if r3 ≠ 0 then (mm_b1 (f_X5_readFrom 0 r1 a2 a3 m) fun m5 =>
some (.inr (0, m5)))
else (some (.inr (4, m))))
else (some (.inr (3, m))))
else (some (.inr (1, m))))
else (some (.inl 0))))
set_option maxHeartbeats 4000000 in
set_option maxRecDepth 100000 in
theorem k_X11_rowOf (d : Nat) (hd : 2 ≤ d) (a1 : Int32) (a2 : Int32) (a3 : Int32) (m : mm_M) (r : Nat ⊕ (Int32 × mm_M)) (hres : f_X11_rowOf a1 a2 a3 m = some r) : mm_X d 36 [.inr (.inr (some (0, 0))), .inl a1, .inl a2, .inl a3] m (mm_th m (fun (t : Int32 × mm_M) => (.inl (some (.inl t.1)), t.2, 0, 0)) r) := by
  unfold f_X11_rowOf at hres
  obtain ⟨d, rfl⟩ : ∃ e, d = e + 1 := ⟨d - 1, by omega⟩
  show mm_E (d + 1) 36 (0, [some (.inr (.inr (some (0, 0)))), some (.inl a1), some (.inl a2), some (.inl a3), none], [], m) (mm_th m (fun (t : Int32 × mm_M) => (.inl (some (.inl t.1)), t.2, 0, 0)) r)
  refine e_steps 2 (s' := (2, [some (.inr (.inr (some (0, 0)))), some (.inl a1), some (.inl a2), some (.inl a3), none], [.inl a1, .inr (.inr (some (0, 0)))], m)) rfl ?_
  rcases mm_bx_some hres with ⟨e9, hv, rfl⟩ | ⟨r1, hv, hres⟩
  · exact e_callx (pc := 5) (L := [some (.inr (.inr (some (0, 0)))), some (.inl a1), some (.inl a2), some (.inl a3), none]) (st := []) rfl rfl (k_X11_sheetOf d (by omega) a1 _ _ hv)
  refine e_call0 (pc := 5) (L := [some (.inr (.inr (some (0, 0)))), some (.inl a1), some (.inl a2), some (.inl a3), none]) (st := []) (m' := m) (v := some (.inr (.inr (some (11, r1))))) rfl (k_X11_sheetOf d (by omega) a1 _ _ hv) ?_
  show mm_E (d + 1) 36 (5, [some (.inr (.inr (some (0, 0)))), some (.inl a1), some (.inl a2), some (.inl a3), none], [.inr (.inr (some (11, r1)))], m) (mm_th m (fun (t : Int32 × mm_M) => (.inl (some (.inl t.1)), t.2, 0, 0)) r)
  refine e_steps 2 (s' := (8, [some (.inr (.inr (some (0, 0)))), some (.inl a1), some (.inl a2), some (.inl a3), some (.inr (.inr (some (11, r1))))], [.inl a3], m)) rfl ?_
  refine e_if (s1 := (17, [some (.inr (.inr (some (0, 0)))), some (.inl a1), some (.inl a2), some (.inl a3), some (.inr (.inr (some (11, r1))))], [], m)) (s2 := (11, [some (.inr (.inr (some (0, 0)))), some (.inl a1), some (.inl a2), some (.inl a3), some (.inr (.inr (some (11, r1))))], [], m)) rfl hres (fun hc hres => ?_) (fun hc hres => ?_)
  · refine e_mask (L' := [none, none, none, none, none]) rfl ?_
    obtain rfl := Option.some.inj hres
    exact e_ret rfl rfl
  · refine e_steps 2 (s' := (14, [some (.inr (.inr (some (0, 0)))), some (.inl a1), some (.inl a2), some (.inl a3), some (.inr (.inr (some (11, r1))))], [.inl 8, .inl a3], m)) rfl ?_
    refine e_if (s1 := (28, [some (.inr (.inr (some (0, 0)))), some (.inl a1), some (.inl a2), some (.inl a3), some (.inr (.inr (some (11, r1))))], [], m)) (s2 := (17, [some (.inr (.inr (some (0, 0)))), some (.inl a1), some (.inl a2), some (.inl a3), some (.inr (.inr (some (11, r1))))], [], m)) rfl hres (fun hc hres => ?_) (fun hc hres => ?_)
    · refine e_steps 3 (s' := (34, [some (.inr (.inr (some (0, 0)))), some (.inl a1), some (.inl a2), some (.inl a3), some (.inr (.inr (some (11, r1))))], [.inl (-1), .inl (m 11 r1 2)], m)) rfl ?_
      refine e_if (s1 := (39, [some (.inr (.inr (some (0, 0)))), some (.inl a1), some (.inl a2), some (.inl a3), some (.inr (.inr (some (11, r1))))], [], m)) (s2 := (37, [some (.inr (.inr (some (0, 0)))), some (.inl a1), some (.inl a2), some (.inl a3), some (.inr (.inr (some (11, r1))))], [], m)) rfl hres (fun hc hres => ?_) (fun hc hres => ?_)
      · refine e_steps 5 (s' := (45, [some (.inr (.inr (some (0, 0)))), some (.inl a1), some (.inl a2), some (.inl a3), some (.inr (.inr (some (11, r1))))], [.inl (a3 * 3), .inl a2, .inr (.inr (some (11, r1)))], m)) rfl ?_
        obtain ⟨r2, hv, hres⟩ := mm_b1_some hres
        refine e_call0 (pc := 48) (L := [some (.inr (.inr (some (0, 0)))), some (.inl a1), some (.inl a2), some (.inl a3), some (.inr (.inr (some (11, r1))))]) (st := []) (m' := m) (v := some (.inl r2)) rfl (k_X7_hasPart d (by omega) r1 a2 (a3 * 3) _ _ hv) ?_
        show mm_E (d + 1) 36 (48, [some (.inr (.inr (some (0, 0)))), some (.inl a1), some (.inl a2), some (.inl a3), some (.inr (.inr (some (11, r1))))], [.inl r2], m) (mm_th m (fun (t : Int32 × mm_M) => (.inl (some (.inl t.1)), t.2, 0, 0)) r)
        refine e_if (s1 := (53, [some (.inr (.inr (some (0, 0)))), some (.inl a1), some (.inl a2), some (.inl a3), some (.inr (.inr (some (11, r1))))], [], m)) (s2 := (51, [some (.inr (.inr (some (0, 0)))), some (.inl a1), some (.inl a2), some (.inl a3), some (.inr (.inr (some (11, r1))))], [], m)) rfl hres (fun hc hres => ?_) (fun hc hres => ?_)
        · refine e_steps 3 (s' := (57, [some (.inr (.inr (some (0, 0)))), some (.inl a1), some (.inl a2), some (.inl a3), some (.inr (.inr (some (11, r1))))], [.inl a3, .inl a2, .inr (.inr (some (11, r1)))], m)) rfl ?_
          obtain ⟨r3, hv, hres⟩ := mm_b1_some hres
          refine e_call0 (pc := 60) (L := [some (.inr (.inr (some (0, 0)))), some (.inl a1), some (.inl a2), some (.inl a3), some (.inr (.inr (some (11, r1))))]) (st := []) (m' := m) (v := some (.inl r3)) rfl (k_X7_tellsRow d (by omega) r1 a2 a3 _ _ hv) ?_
          show mm_E (d + 1) 36 (60, [some (.inr (.inr (some (0, 0)))), some (.inl a1), some (.inl a2), some (.inl a3), some (.inr (.inr (some (11, r1))))], [.inl r3], m) (mm_th m (fun (t : Int32 × mm_M) => (.inl (some (.inl t.1)), t.2, 0, 0)) r)
          refine e_if (s1 := (65, [some (.inr (.inr (some (0, 0)))), some (.inl a1), some (.inl a2), some (.inl a3), some (.inr (.inr (some (11, r1))))], [], m)) (s2 := (63, [some (.inr (.inr (some (0, 0)))), some (.inl a1), some (.inl a2), some (.inl a3), some (.inr (.inr (some (11, r1))))], [], m)) rfl hres (fun hc hres => ?_) (fun hc hres => ?_)
          · refine e_steps 5 (s' := (73, [some (.inr (.inr (some (0, 0)))), some (.inl a1), some (.inl a2), some (.inl a3), some (.inr (.inr (some (11, r1))))], [.inl a3, .inl a2, .inr (.inr (some (11, r1))), .inr (.inr (some (6, 0)))], m)) rfl ?_
            obtain ⟨m5, hv, hres⟩ := mm_b1_some hres
            refine e_call0 (pc := 76) (L := [some (.inr (.inr (some (0, 0)))), some (.inl a1), some (.inl a2), some (.inl a3), some (.inr (.inr (some (11, r1))))]) (st := []) (m' := m5) (v := none) rfl (k_X5_readFrom d (by omega) 0 r1 a2 a3 _ _ hv) ?_
            show mm_E (d + 1) 36 (76, [some (.inr (.inr (some (0, 0)))), some (.inl a1), some (.inl a2), some (.inl a3), some (.inr (.inr (some (11, r1))))], [], m5) (mm_th m (fun (t : Int32 × mm_M) => (.inl (some (.inl t.1)), t.2, 0, 0)) r)
            refine e_steps 1 (s' := (77, [some (.inr (.inr (some (0, 0)))), some (.inl a1), some (.inl a2), some (.inl a3), some (.inr (.inr (some (11, r1))))], [.inl 0], m5)) rfl ?_
            obtain rfl := Option.some.inj hres
            exact e_ret rfl rfl
          · refine e_steps 1 (s' := (64, [some (.inr (.inr (some (0, 0)))), some (.inl a1), some (.inl a2), some (.inl a3), some (.inr (.inr (some (11, r1))))], [.inl 4], m)) rfl ?_
            obtain rfl := Option.some.inj hres
            exact e_ret rfl rfl
        · refine e_steps 1 (s' := (52, [some (.inr (.inr (some (0, 0)))), some (.inl a1), some (.inl a2), some (.inl a3), some (.inr (.inr (some (11, r1))))], [.inl 3], m)) rfl ?_
          obtain rfl := Option.some.inj hres
          exact e_ret rfl rfl
      · refine e_steps 1 (s' := (38, [some (.inr (.inr (some (0, 0)))), some (.inl a1), some (.inl a2), some (.inl a3), some (.inr (.inr (some (11, r1))))], [.inl 1], m)) rfl ?_
        obtain rfl := Option.some.inj hres
        exact e_ret rfl rfl
    · refine e_mask (L' := [none, none, none, none, none]) rfl ?_
      obtain rfl := Option.some.inj hres
      exact e_ret rfl rfl
/-- GlassThreads.count(I)I -/
def f_X11_count (a1 : Int32) (m : mm_M) : Option (Nat ⊕ (Int32)) :=
if a1 = 0 then (some (.inr (m 0 0 6)))
else if a1 = 1 then (some (.inr (m 0 0 2)))
else if a1 = 2 then (some (.inr (m 3 0 8)))
else if a1 = 3 then (some (.inr (m 9 0 5)))
else if a1 = 4 then (some (.inr (m 9 0 8)))
else if a1 = 5 then (some (.inr (m 0 0 15)))
else if a1 = 6 then (some (.inr (m 7 0 3)))
else if a1 = 7 then (some (.inr (m 1 0 1)))
else (some (.inl 1))
set_option maxHeartbeats 4000000 in
set_option maxRecDepth 100000 in
theorem k_X11_count (d : Nat) (hd : 0 ≤ d) (a1 : Int32) (m : mm_M) (r : Nat ⊕ (Int32)) (hres : f_X11_count a1 m = some r) : mm_X d 37 [.inr (.inr (some (0, 0))), .inl a1] m (mm_th m (fun (t : Int32) => (.inl (some (.inl t)), m, 0, 0)) r) := by
  unfold f_X11_count at hres
  show mm_E d 37 (0, [some (.inr (.inr (some (0, 0)))), some (.inl a1)], [], m) (mm_th m (fun (t : Int32) => (.inl (some (.inl t)), m, 0, 0)) r)
  refine e_steps 1 (s' := (1, [some (.inr (.inr (some (0, 0)))), some (.inl a1)], [.inl a1], m)) rfl ?_
  refine e_sw (c := a1 = 0) (s1 := (48, [some (.inr (.inr (some (0, 0)))), some (.inl a1)], [], m)) rfl hres (fun hc hres => ?_) (fun hc hres hst => ?_)
  · refine e_steps 2 (s' := (52, [some (.inr (.inr (some (0, 0)))), some (.inl a1)], [.inl (m 0 0 6)], m)) rfl ?_
    obtain rfl := Option.some.inj hres
    exact e_ret rfl rfl
  · refine e_sw (c := a1 = 1) (s1 := (53, [some (.inr (.inr (some (0, 0)))), some (.inl a1)], [], m)) hst hres (fun hc hres => ?_) (fun hc hres hst => ?_)
    · refine e_steps 2 (s' := (57, [some (.inr (.inr (some (0, 0)))), some (.inl a1)], [.inl (m 0 0 2)], m)) rfl ?_
      obtain rfl := Option.some.inj hres
      exact e_ret rfl rfl
    · refine e_sw (c := a1 = 2) (s1 := (58, [some (.inr (.inr (some (0, 0)))), some (.inl a1)], [], m)) hst hres (fun hc hres => ?_) (fun hc hres hst => ?_)
      · refine e_steps 3 (s' := (65, [some (.inr (.inr (some (0, 0)))), some (.inl a1)], [.inl (m 3 0 8)], m)) rfl ?_
        obtain rfl := Option.some.inj hres
        exact e_ret rfl rfl
      · refine e_sw (c := a1 = 3) (s1 := (66, [some (.inr (.inr (some (0, 0)))), some (.inl a1)], [], m)) hst hres (fun hc hres => ?_) (fun hc hres hst => ?_)
        · refine e_steps 3 (s' := (73, [some (.inr (.inr (some (0, 0)))), some (.inl a1)], [.inl (m 9 0 5)], m)) rfl ?_
          obtain rfl := Option.some.inj hres
          exact e_ret rfl rfl
        · refine e_sw (c := a1 = 4) (s1 := (74, [some (.inr (.inr (some (0, 0)))), some (.inl a1)], [], m)) hst hres (fun hc hres => ?_) (fun hc hres hst => ?_)
          · refine e_steps 3 (s' := (81, [some (.inr (.inr (some (0, 0)))), some (.inl a1)], [.inl (m 9 0 8)], m)) rfl ?_
            obtain rfl := Option.some.inj hres
            exact e_ret rfl rfl
          · refine e_sw (c := a1 = 5) (s1 := (82, [some (.inr (.inr (some (0, 0)))), some (.inl a1)], [], m)) hst hres (fun hc hres => ?_) (fun hc hres hst => ?_)
            · refine e_steps 2 (s' := (86, [some (.inr (.inr (some (0, 0)))), some (.inl a1)], [.inl (m 0 0 15)], m)) rfl ?_
              obtain rfl := Option.some.inj hres
              exact e_ret rfl rfl
            · refine e_sw (c := a1 = 6) (s1 := (87, [some (.inr (.inr (some (0, 0)))), some (.inl a1)], [], m)) hst hres (fun hc hres => ?_) (fun hc hres hst => ?_)
              · refine e_steps 3 (s' := (94, [some (.inr (.inr (some (0, 0)))), some (.inl a1)], [.inl (m 7 0 3)], m)) rfl ?_
                obtain rfl := Option.some.inj hres
                exact e_ret rfl rfl
              · refine e_sw (c := a1 = 7) (s1 := (95, [some (.inr (.inr (some (0, 0)))), some (.inl a1)], [], m)) hst hres (fun hc hres => ?_) (fun hc hres hst => ?_)
                · refine e_steps 3 (s' := (102, [some (.inr (.inr (some (0, 0)))), some (.inl a1)], [.inl (m 1 0 1)], m)) rfl ?_
                  obtain rfl := Option.some.inj hres
                  exact e_ret rfl rfl
                · refine e_step (s' := (103, [some (.inr (.inr (some (0, 0)))), some (.inl a1)], [], m)) hst ?_
                  obtain rfl := Option.some.inj hres
                  exact e_ret rfl rfl
