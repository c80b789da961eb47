/-- GlassThreadsModel.emit(I)V -/
def f_X12_emit (a1 : Int32) (m : mm_M) : Option (mm_M) :=
if (m 12 0 29) = 0 then (if mm_in (800 + (m 12 0 32)) 1600 then (
mm_let (mm_w m 83 0 ((800 + (m 12 0 32)).toNatClampNeg) a1) fun m1 =>
mm_let (mm_w m1 12 0 32 ((m1 12 0 32) + 1)) fun m2 =>
some m2) else none)
else (some m)
set_option maxHeartbeats 4000000 in
set_option maxRecDepth 100000 in
theorem k_X12_emit (d : Nat) (hd : 0 ≤ d) (a1 : Int32) (m : mm_M) (r : mm_M) (hres : f_X12_emit a1 m = some r) : mm_X d 175 [.inr (.inr (some (12, 0))), .inl a1] m (.inl none, r, 0, 0) := by
  unfold f_X12_emit at hres
  show mm_E d 175 (0, [some (.inr (.inr (some (12, 0)))), some (.inl a1)], [], m) (.inl none, r, 0, 0)
  refine e_steps 2 (s' := (4, [some (.inr (.inr (some (12, 0)))), some (.inl a1)], [.inl (m 12 0 29)], m)) rfl ?_
  refine e_if (s1 := (8, [some (.inr (.inr (some (12, 0)))), some (.inl a1)], [], m)) (s2 := (7, [some (.inr (.inr (some (12, 0)))), some (.inl a1)], [], m)) rfl hres (fun hc hres => ?_) (fun hc hres => ?_)
  · refine e_steps 7 (s' := (21, [some (.inr (.inr (some (12, 0)))), some (.inl a1)], [.inl a1, .inl (800 + (m 12 0 32)), .inr (.inr (some (83, 0)))], m)) rfl ?_
    refine e_gd (s1 := (22, [some (.inr (.inr (some (12, 0)))), some (.inl a1)], [], (mm_w m 83 0 ((800 + (m 12 0 32)).toNatClampNeg) a1))) rfl hres (fun hc hres => ?_)
    refine e_let (fun (m1 : mm_M) => (22, [some (.inr (.inr (some (12, 0)))), some (.inl a1)], [], m1)) hres (fun m1 hres => ?_)
    refine e_steps 6 (s' := (32, [some (.inr (.inr (some (12, 0)))), some (.inl a1)], [], (mm_w m1 12 0 32 ((m1 12 0 32) + 1)))) rfl ?_
    refine e_let (fun (m2 : mm_M) => (32, [some (.inr (.inr (some (12, 0)))), some (.inl a1)], [], m2)) hres (fun m2 hres => ?_)
    obtain rfl := Option.some.inj hres
    exact e_ret rfl rfl
  · obtain rfl := Option.some.inj hres
    exact e_ret rfl rfl
/-- GlassThreadsModel.which([Ljava/lang/String;)I -/
def f_X12_which_g64  (m : mm_M) : Option (Int32) :=
(mm_b1 (mm_loop (σ := Int32) (ρ := (Int32) ⊕ (Unit)) (fun (v2 : Int32) => (if (Int32.ofNat 5) ≤ v2 then (some (.inr (.inr ())))
else (if mm_in v2 5 then (
mm_let (0 + v2.toNatClampNeg) fun i3 =>
mm_b1 (f_X12_is i3 m) fun r4 =>
if r4 = 0 then (mm_let (v2 + 1) fun v5 =>
some (.inl v5))
else (some (.inr (.inl v2)))) else none) : Option ((Int32) ⊕ ((Int32) ⊕ (Unit))))) mm_fu 0) fun t => match t with
| .inl v6 => some v6
| .inr _ => some (-1))
set_option maxHeartbeats 4000000 in
set_option maxRecDepth 100000 in
theorem k_X12_which_g64 (d : Nat) (hd : 1 ≤ d)  (m : mm_M) (r : Int32) (hres : f_X12_which_g64  m = some r) : mm_X d 170 [.inr (.inr (some (12, 0))), .inr (.inr (some (64, 0)))] m (.inl (some (.inl r)), m, 0, 0) := by
  unfold f_X12_which_g64 at hres
  obtain ⟨d, rfl⟩ : ∃ e, d = e + 1 := ⟨d - 1, by omega⟩
  show mm_E (d + 1) 170 (0, [some (.inr (.inr (some (12, 0)))), some (.inr (.inr (some (64, 0)))), none], [], m) (.inl (some (.inl r)), m, 0, 0)
  refine e_steps 2 (s' := (2, [some (.inr (.inr (some (12, 0)))), some (.inr (.inr (some (64, 0)))), some (.inl 0)], [], m)) rfl ?_
  refine e_mask (L' := [some (.inr (.inr (some (12, 0)))), some (.inr (.inr (some (64, 0)))), some (.inl 0)]) rfl ?_
  refine e_loopb (φ := fun s => (2, [some (.inr (.inr (some (12, 0)))), some (.inr (.inr (some (64, 0)))), some (.inl s)], [], m)) (K := fun t => match t with | .inl t => mm_E (d + 1) 170 (18, [none, none, some (.inl t)], [], m) (.inl (some (.inl r)), m, 0, 0) | .inr t => mm_E (d + 1) 170 (26, [none, none, none], [], m) (.inl (some (.inl r)), m, 0, 0)) hres (fun t hres => ?_) (fun v2 ol1 hres hcl1 hxl1 => ?_)
  · rcases t with v6 | _
    · show mm_E (d + 1) 170 (18, [none, none, some (.inl v6)], [], m) (.inl (some (.inl r)), m, 0, 0)
      refine e_steps 1 (s' := (19, [none, none, some (.inl v6)], [.inl v6], m)) rfl ?_
      obtain rfl := Option.some.inj hres
      exact e_ret rfl rfl
    · show mm_E (d + 1) 170 (26, [none, none, none], [], m) (.inl (some (.inl r)), m, 0, 0)
      refine e_steps 1 (s' := (27, [none, none, none], [.inl (-1)], m)) rfl ?_
      obtain rfl := Option.some.inj hres
      exact e_ret rfl rfl
  · show mm_E (d + 1) 170 (2, [some (.inr (.inr (some (12, 0)))), some (.inr (.inr (some (64, 0)))), some (.inl v2)], [], m) (.inl (some (.inl r)), m, 0, 0)
    refine e_steps 3 (s' := (5, [some (.inr (.inr (some (12, 0)))), some (.inr (.inr (some (64, 0)))), some (.inl v2)], [.inl (Int32.ofNat 5), .inl v2], m)) rfl ?_
    refine e_if (s1 := (26, [some (.inr (.inr (some (12, 0)))), some (.inr (.inr (some (64, 0)))), some (.inl v2)], [], m)) (s2 := (8, [some (.inr (.inr (some (12, 0)))), some (.inr (.inr (some (64, 0)))), some (.inl v2)], [], m)) rfl hres (fun hc hres => ?_) (fun hc hres => ?_)
    · obtain rfl := Option.some.inj hres
      exact e_mask (L' := [none, none, none]) rfl (hxl1 _ rfl)
    · refine e_steps 3 (s' := (11, [some (.inr (.inr (some (12, 0)))), some (.inr (.inr (some (64, 0)))), some (.inl v2)], [.inl v2, .inr (.inr (some (64, 0))), .inr (.inr (some (12, 0)))], m)) rfl ?_
      refine e_gd (s1 := (12, [some (.inr (.inr (some (12, 0)))), some (.inr (.inr (some (64, 0)))), some (.inl v2)], [.inr (.inr (some (135, (0 + v2.toNatClampNeg)))), .inr (.inr (some (12, 0)))], m)) rfl hres (fun hc hres => ?_)
      refine e_let (fun (i3 : Nat) => (12, [some (.inr (.inr (some (12, 0)))), some (.inr (.inr (some (64, 0)))), some (.inl v2)], [.inr (.inr (some (135, i3))), .inr (.inr (some (12, 0)))], m)) hres (fun i3 hres => ?_)
      obtain ⟨r4, hv, hres⟩ := mm_b1_some hres
      refine e_call0 (pc := 15) (L := [some (.inr (.inr (some (12, 0)))), some (.inr (.inr (some (64, 0)))), some (.inl v2)]) (st := []) (m' := m) (v := some (.inl r4)) rfl (k_X12_is d (by omega) i3 _ _ hv) ?_
      show mm_E (d + 1) 170 (15, [some (.inr (.inr (some (12, 0)))), some (.inr (.inr (some (64, 0)))), some (.inl v2)], [.inl r4], m) (.inl (some (.inl r)), m, 0, 0)
      refine e_if (s1 := (20, [some (.inr (.inr (some (12, 0)))), some (.inr (.inr (some (64, 0)))), some (.inl v2)], [], m)) (s2 := (18, [some (.inr (.inr (some (12, 0)))), some (.inr (.inr (some (64, 0)))), some (.inl v2)], [], m)) rfl hres (fun hc hres => ?_) (fun hc hres => ?_)
      · refine e_steps 1 (s' := (23, [some (.inr (.inr (some (12, 0)))), some (.inr (.inr (some (64, 0)))), some (.inl (v2 + 1))], [], m)) rfl ?_
        refine e_let (fun (v5 : Int32) => (23, [some (.inr (.inr (some (12, 0)))), some (.inr (.inr (some (64, 0)))), some (.inl v5)], [], m)) hres (fun v5 hres => ?_)
        refine e_steps 1 (s' := (2, [some (.inr (.inr (some (12, 0)))), some (.inr (.inr (some (64, 0)))), some (.inl v5)], [], m)) rfl ?_
        obtain rfl := Option.some.inj hres
        exact e_mask (L' := [some (.inr (.inr (some (12, 0)))), some (.inr (.inr (some (64, 0)))), some (.inl v5)]) rfl (hcl1 _ rfl)
      · obtain rfl := Option.some.inj hres
        exact e_mask (L' := [none, none, some (.inl v2)]) rfl (hxl1 _ rfl)
/-- GlassThreadsModel.readPoint(I)V -/
def f_X12_readPoint (RF : Int32 → mm_M → Option (mm_M)) (a1 : Int32) (m : mm_M) : Option (mm_M) :=
if (m 12 0 29) = 0 then (if (m 12 0 24) ≠ 2 then (if (m 12 0 24) ≠ 1 then (mm_b1 (f_X12_isSign 40 m) fun r1 =>
if r1 = 0 then (mm_b1 (f_X12_wrong 1 m) fun m3 =>
some m3)
else (mm_b1 (f_X12_step m) fun m5 =>
mm_b1 (RF (a1 + 1) m5) fun m7 =>
mm_b1 (f_X12_need 41 m7) fun m9 =>
some m9))
else (mm_b1 (f_X12_which_g64 m) fun r10 =>
mm_let (fun (m11 : mm_M) => (mm_b1 (f_X12_emit (20 + r10) m11) fun m14 =>
if (m14 12 0 29) ≠ 0 then (some m14)
else (mm_b1 (f_X12_step m14) fun m16 =>
some m16) : Option (mm_M))) fun k12 =>
if r10 ≠ (-1) then (k12 m)
else (mm_b1 (f_X12_wrong 3 m) fun m18 =>
k12 m18)))
else (mm_b2 (f_X12_readNumber 0 99999 m) fun r19 m20 =>
mm_b1 (f_X12_emit 0 m20) fun m22 =>
mm_b1 (f_X12_emit r19 m22) fun m24 =>
some m24))
else (some m)
set_option maxHeartbeats 4000000 in
set_option maxRecDepth 100000 in
theorem k_X12_readPoint (RF : Int32 → mm_M → Option (mm_M)) (e0 : Nat) (hRF : ∀ (a1 : Int32) (m : mm_M) (r : mm_M), RF a1 m = some r → ∀ d, e0 ≤ d → mm_X d 181 [.inr (.inr (some (12, 0))), .inl a1] m (.inl none, r, 0, 0)) (hB : 2 ≤ e0) (d : Nat) (hd : e0 + 1 ≤ d) (a1 : Int32) (m : mm_M) (r : mm_M) (hres : f_X12_readPoint RF a1 m = some r) : mm_X d 176 [.inr (.inr (some (12, 0))), .inl a1] m (.inl none, r, 0, 0) := by
  unfold f_X12_readPoint at hres
  obtain ⟨d, rfl⟩ : ∃ e, d = e + 1 := ⟨d - 1, by omega⟩
  show mm_E (d + 1) 176 (0, [some (.inr (.inr (some (12, 0)))), some (.inl a1), none], [], m) (.inl none, r, 0, 0)
  refine e_steps 2 (s' := (4, [some (.inr (.inr (some (12, 0)))), some (.inl a1), none], [.inl (m 12 0 29)], m)) rfl ?_
  refine e_if (s1 := (8, [some (.inr (.inr (some (12, 0)))), some (.inl a1), none], [], m)) (s2 := (7, [some (.inr (.inr (some (12, 0)))), some (.inl a1), none], [], m)) rfl hres (fun hc hres => ?_) (fun hc hres => ?_)
  · refine e_steps 3 (s' := (13, [some (.inr (.inr (some (12, 0)))), some (.inl a1), none], [.inl 2, .inl (m 12 0 24)], m)) rfl ?_
    refine e_if (s1 := (38, [some (.inr (.inr (some (12, 0)))), some (.inl a1), none], [], m)) (s2 := (16, [some (.inr (.inr (some (12, 0)))), some (.inl a1), none], [], m)) rfl hres (fun hc hres => ?_) (fun hc hres => ?_)
    · refine e_steps 3 (s' := (43, [some (.inr (.inr (some (12, 0)))), some (.inl a1), none], [.inl 1, .inl (m 12 0 24)], m)) rfl ?_
      refine e_if (s1 := (87, [some (.inr (.inr (some (12, 0)))), some (.inl a1), none], [], m)) (s2 := (46, [some (.inr (.inr (some (12, 0)))), some (.inl a1), none], [], m)) rfl hres (fun hc hres => ?_) (fun hc hres => ?_)
      · refine e_steps 2 (s' := (90, [some (.inr (.inr (some (12, 0)))), some (.inl a1), none], [.inl 40, .inr (.inr (some (12, 0)))], m)) rfl ?_
        obtain ⟨r1, hv, hres⟩ := mm_b1_some hres
        refine e_call0 (pc := 93) (L := [some (.inr (.inr (some (12, 0)))), some (.inl a1), none]) (st := []) (m' := m) (v := some (.inl r1)) rfl (k_X12_isSign d (by omega) 40 _ _ hv) ?_
        show mm_E (d + 1) 176 (93, [some (.inr (.inr (some (12, 0)))), some (.inl a1), none], [.inl r1], m) (.inl none, r, 0, 0)
        refine e_if (s1 := (116, [some (.inr (.inr (some (12, 0)))), some (.inl a1), none], [], m)) (s2 := (96, [some (.inr (.inr (some (12, 0)))), some (.inl a1), none], [], m)) rfl hres (fun hc hres => ?_) (fun hc hres => ?_)
        · refine e_steps 2 (s' := (118, [some (.inr (.inr (some (12, 0)))), some (.inl a1), none], [.inl 1, .inr (.inr (some (12, 0)))], m)) rfl ?_
          obtain ⟨m3, hv, hres⟩ := mm_b1_some hres
          refine e_call0 (pc := 121) (L := [some (.inr (.inr (some (12, 0)))), some (.inl a1), none]) (st := []) (m' := m3) (v := none) rfl (k_X12_wrong d (by omega) 1 _ _ hv) ?_
          show mm_E (d + 1) 176 (121, [some (.inr (.inr (some (12, 0)))), some (.inl a1), none], [], m3) (.inl none, r, 0, 0)
          refine e_mask (L' := [none, none, none]) rfl ?_
          obtain rfl := Option.some.inj hres
          exact e_ret rfl rfl
        · refine e_steps 1 (s' := (97, [some (.inr (.inr (some (12, 0)))), some (.inl a1), none], [.inr (.inr (some (12, 0)))], m)) rfl ?_
          obtain ⟨m5, hv, hres⟩ := mm_b1_some hres
          refine e_call0 (pc := 100) (L := [some (.inr (.inr (some (12, 0)))), some (.inl a1), none]) (st := []) (m' := m5) (v := none) rfl (k_X12_step d (by omega)  _ _ hv) ?_
          show mm_E (d + 1) 176 (100, [some (.inr (.inr (some (12, 0)))), some (.inl a1), none], [], m5) (.inl none, r, 0, 0)
          refine e_steps 4 (s' := (104, [some (.inr (.inr (some (12, 0)))), some (.inl a1), none], [.inl (a1 + 1), .inr (.inr (some (12, 0)))], m5)) rfl ?_
          obtain ⟨m7, hv, hres⟩ := mm_b1_some hres
          refine e_call0 (pc := 107) (L := [some (.inr (.inr (some (12, 0)))), some (.inl a1), none]) (st := []) (m' := m7) (v := none) rfl (hRF (a1 + 1) _ _ hv d (by omega)) ?_
          show mm_E (d + 1) 176 (107, [some (.inr (.inr (some (12, 0)))), some (.inl a1), none], [], m7) (.inl none, r, 0, 0)
          refine e_steps 2 (s' := (110, [some (.inr (.inr (some (12, 0)))), some (.inl a1), none], [.inl 41, .inr (.inr (some (12, 0)))], m7)) rfl ?_
          obtain ⟨m9, hv, hres⟩ := mm_b1_some hres
          refine e_call0 (pc := 113) (L := [some (.inr (.inr (some (12, 0)))), some (.inl a1), none]) (st := []) (m' := m9) (v := none) rfl (k_X12_need d (by omega) 41 _ _ hv) ?_
          show mm_E (d + 1) 176 (113, [some (.inr (.inr (some (12, 0)))), some (.inl a1), none], [], m9) (.inl none, r, 0, 0)
          refine e_steps 1 (s' := (121, [some (.inr (.inr (some (12, 0)))), some (.inl a1), none], [], m9)) rfl ?_
          refine e_mask (L' := [none, none, none]) rfl ?_
          obtain rfl := Option.some.inj hres
          exact e_ret rfl rfl
      · refine e_steps 3 (s' := (51, [some (.inr (.inr (some (12, 0)))), some (.inl a1), none], [.inr (.inr (some (64, 0))), .inr (.inr (some (12, 0)))], m)) rfl ?_
        obtain ⟨r10, hv, hres⟩ := mm_b1_some hres
        refine e_call0 (pc := 54) (L := [some (.inr (.inr (some (12, 0)))), some (.inl a1), none]) (st := []) (m' := m) (v := some (.inl r10)) rfl (k_X12_which_g64 d (by omega)  _ _ hv) ?_
        show mm_E (d + 1) 176 (54, [some (.inr (.inr (some (12, 0)))), some (.inl a1), none], [.inl r10], m) (.inl none, r, 0, 0)
        refine e_steps 3 (s' := (57, [some (.inr (.inr (some (12, 0)))), some (.inl a1), some (.inl r10)], [.inl (-1), .inl r10], m)) rfl ?_
        refine e_join (fun k12 => ∀ (m11 : mm_M), k12 m11 = some r → mm_E (d + 1) 176 (65, [some (.inr (.inr (some (12, 0)))), none, some (.inl r10)], [], m11) (.inl none, r, 0, 0)) hres (fun m11 hres => ?_) (fun k12 hk12 hres => ?_)
        · refine e_steps 4 (s' := (70, [some (.inr (.inr (some (12, 0)))), none, some (.inl r10)], [.inl (20 + r10), .inr (.inr (some (12, 0)))], m11)) rfl ?_
          obtain ⟨m14, hv, hres⟩ := mm_b1_some hres
          refine e_call0 (pc := 73) (L := [some (.inr (.inr (some (12, 0)))), none, some (.inl r10)]) (st := []) (m' := m14) (v := none) rfl (k_X12_emit d (by omega) (20 + r10) _ _ hv) ?_
          show mm_E (d + 1) 176 (73, [some (.inr (.inr (some (12, 0)))), none, some (.inl r10)], [], m14) (.inl none, r, 0, 0)
          refine e_steps 2 (s' := (77, [some (.inr (.inr (some (12, 0)))), none, some (.inl r10)], [.inl (m14 12 0 29)], m14)) rfl ?_
          refine e_if (s1 := (84, [some (.inr (.inr (some (12, 0)))), none, some (.inl r10)], [], m14)) (s2 := (80, [some (.inr (.inr (some (12, 0)))), none, some (.inl r10)], [], m14)) rfl hres (fun hc hres => ?_) (fun hc hres => ?_)
          · refine e_mask (L' := [none, none, none]) rfl ?_
            refine e_steps 1 (s' := (121, [none, none, none], [], m14)) rfl ?_
            obtain rfl := Option.some.inj hres
            exact e_ret rfl rfl
          · refine e_steps 1 (s' := (81, [some (.inr (.inr (some (12, 0)))), none, some (.inl r10)], [.inr (.inr (some (12, 0)))], m14)) rfl ?_
            obtain ⟨m16, hv, hres⟩ := mm_b1_some hres
            refine e_call0 (pc := 84) (L := [some (.inr (.inr (some (12, 0)))), none, some (.inl r10)]) (st := []) (m' := m16) (v := none) rfl (k_X12_step d (by omega)  _ _ hv) ?_
            show mm_E (d + 1) 176 (84, [some (.inr (.inr (some (12, 0)))), none, some (.inl r10)], [], m16) (.inl none, r, 0, 0)
            refine e_mask (L' := [none, none, none]) rfl ?_
            refine e_steps 1 (s' := (121, [none, none, none], [], m16)) rfl ?_
            obtain rfl := Option.some.inj hres
            exact e_ret rfl rfl
        · refine e_if (s1 := (65, [some (.inr (.inr (some (12, 0)))), some (.inl a1), some (.inl r10)], [], m)) (s2 := (60, [some (.inr (.inr (some (12, 0)))), some (.inl a1), some (.inl r10)], [], m)) rfl hres (fun hc hres => ?_) (fun hc hres => ?_)
          · exact e_mask (L' := [some (.inr (.inr (some (12, 0)))), none, some (.inl r10)]) rfl (hk12 _ hres)
          · refine e_steps 2 (s' := (62, [some (.inr (.inr (some (12, 0)))), some (.inl a1), some (.inl r10)], [.inl 3, .inr (.inr (some (12, 0)))], m)) rfl ?_
            obtain ⟨m18, hv, hres⟩ := mm_b1_some hres
            refine e_call0 (pc := 65) (L := [some (.inr (.inr (some (12, 0)))), some (.inl a1), some (.inl r10)]) (st := []) (m' := m18) (v := none) rfl (k_X12_wrong d (by omega) 3 _ _ hv) ?_
            show mm_E (d + 1) 176 (65, [some (.inr (.inr (some (12, 0)))), some (.inl a1), some (.inl r10)], [], m18) (.inl none, r, 0, 0)
            exact e_mask (L' := [some (.inr (.inr (some (12, 0)))), none, some (.inl r10)]) rfl (hk12 _ hres)
    · refine e_steps 3 (s' := (21, [some (.inr (.inr (some (12, 0)))), some (.inl a1), none], [.inl 99999, .inl 0, .inr (.inr (some (12, 0)))], m)) rfl ?_
      obtain ⟨r19, m20, hv, hres⟩ := mm_b2_some hres
      refine e_call0 (pc := 24) (L := [some (.inr (.inr (some (12, 0)))), some (.inl a1), none]) (st := []) (m' := m20) (v := some (.inl r19)) rfl (k_X12_readNumber d (by omega) 0 99999 _ _ hv) ?_
      show mm_E (d + 1) 176 (24, [some (.inr (.inr (some (12, 0)))), some (.inl a1), none], [.inl r19], m20) (.inl none, r, 0, 0)
      refine e_steps 3 (s' := (27, [some (.inr (.inr (some (12, 0)))), some (.inl a1), some (.inl r19)], [.inl 0, .inr (.inr (some (12, 0)))], m20)) rfl ?_
      obtain ⟨m22, hv, hres⟩ := mm_b1_some hres
      refine e_call0 (pc := 30) (L := [some (.inr (.inr (some (12, 0)))), some (.inl a1), some (.inl r19)]) (st := []) (m' := m22) (v := none) rfl (k_X12_emit d (by omega) 0 _ _ hv) ?_
      show mm_E (d + 1) 176 (30, [some (.inr (.inr (some (12, 0)))), some (.inl a1), some (.inl r19)], [], m22) (.inl none, r, 0, 0)
      refine e_steps 2 (s' := (32, [some (.inr (.inr (some (12, 0)))), some (.inl a1), some (.inl r19)], [.inl r19, .inr (.inr (some (12, 0)))], m22)) rfl ?_
      obtain ⟨m24, hv, hres⟩ := mm_b1_some hres
      refine e_call0 (pc := 35) (L := [some (.inr (.inr (some (12, 0)))), some (.inl a1), some (.inl r19)]) (st := []) (m' := m24) (v := none) rfl (k_X12_emit d (by omega) r19 _ _ hv) ?_
      show mm_E (d + 1) 176 (35, [some (.inr (.inr (some (12, 0)))), some (.inl a1), some (.inl r19)], [], m24) (.inl none, r, 0, 0)
      refine e_steps 1 (s' := (121, [some (.inr (.inr (some (12, 0)))), some (.inl a1), some (.inl r19)], [], m24)) rfl ?_
      refine e_mask (L' := [none, none, none]) rfl ?_
      obtain rfl := Option.some.inj hres
      exact e_ret rfl rfl
  · obtain rfl := Option.some.inj hres
    exact e_ret rfl rfl
/-- GlassThreadsModel.readProduct(I)V -/
def f_X12_readProduct (RF : Int32 → mm_M → Option (mm_M)) (a1 : Int32) (m : mm_M) : Option (mm_M) :=
mm_b1 (f_X12_readPoint RF a1 m) fun m2 =>
(mm_b1 (mm_loop (σ := mm_M) (ρ := (mm_M)) (fun (m4 : mm_M) => (mm_b1 (f_X12_isSign 42 m4) fun r5 =>
mm_let ((mm_b1 (f_X12_isSign 42 m4) fun r7 =>
mm_let (fun (w8 : Int32) => (mm_b1 (f_X12_step m4) fun m11 =>
mm_b1 (f_X12_readPoint RF a1 m11) fun m13 =>
mm_b1 (f_X12_emit w8 m13) fun m15 =>
some (.inl m15) : Option ((mm_M) ⊕ ((mm_M))))) fun k9 =>
if r7 = 0 then (k9 4)
else (k9 3) : Option ((mm_M) ⊕ ((mm_M))))) fun k6 =>
if r5 ≠ 0 then (k6)
else (mm_b1 (f_X12_isSign 47 m4) fun r16 =>
if r16 = 0 then (some (.inr m4))
else (k6)) : Option ((mm_M) ⊕ ((mm_M))))) mm_fu m2) fun m17 =>
some m17)
set_option maxHeartbeats 4000000 in
set_option maxRecDepth 100000 in
theorem k_X12_readProduct (RF : Int32 → mm_M → Option (mm_M)) (e0 : Nat) (hRF : ∀ (a1 : Int32) (m : mm_M) (r : mm_M), RF a1 m = some r → ∀ d, e0 ≤ d → mm_X d 181 [.inr (.inr (some (12, 0))), .inl a1] m (.inl none, r, 0, 0)) (hB : 2 ≤ e0) (d : Nat) (hd : e0 + 2 ≤ d) (a1 : Int32) (m : mm_M) (r : mm_M) (hres : f_X12_readProduct RF a1 m = some r) : mm_X d 177 [.inr (.inr (some (12, 0))), .inl a1] m (.inl none, r, 0, 0) := by
  unfold f_X12_readProduct at hres
  obtain ⟨d, rfl⟩ : ∃ e, d = e + 1 := ⟨d - 1, by omega⟩
  show mm_E (d + 1) 177 (0, [some (.inr (.inr (some (12, 0)))), some (.inl a1), none], [], m) (.inl none, r, 0, 0)
  refine e_steps 2 (s' := (2, [some (.inr (.inr (some (12, 0)))), some (.inl a1), none], [.inl a1, .inr (.inr (some (12, 0)))], m)) rfl ?_
  obtain ⟨m2, hv, hres⟩ := mm_b1_some hres
  refine e_call0 (pc := 5) (L := [some (.inr (.inr (some (12, 0)))), some (.inl a1), none]) (st := []) (m' := m2) (v := none) rfl (k_X12_readPoint RF e0 hRF hB d (by omega) a1 _ _ hv) ?_
  show mm_E (d + 1) 177 (5, [some (.inr (.inr (some (12, 0)))), some (.inl a1), none], [], m2) (.inl none, r, 0, 0)
  refine e_mask (L' := [some (.inr (.inr (some (12, 0)))), some (.inl a1), none]) rfl ?_
  refine e_loopb (φ := fun s => (5, [some (.inr (.inr (some (12, 0)))), some (.inl a1), none], [], s)) (K := fun t => mm_E (d + 1) 177 (55, [none, none, none], [], t) (.inl none, r, 0, 0)) hres (fun m17 hres => ?_) (fun m4 ol3 hres hcl3 hxl3 => ?_)
  · show mm_E (d + 1) 177 (55, [none, none, none], [], m17) (.inl none, r, 0, 0)
    obtain rfl := Option.some.inj hres
    exact e_ret rfl rfl
  · show mm_E (d + 1) 177 (5, [some (.inr (.inr (some (12, 0)))), some (.inl a1), none], [], m4) (.inl none, r, 0, 0)
    refine e_steps 2 (s' := (8, [some (.inr (.inr (some (12, 0)))), some (.inl a1), none], [.inl 42, .inr (.inr (some (12, 0)))], m4)) rfl ?_
    obtain ⟨r5, hv, hres⟩ := mm_b1_some hres
    refine e_call0 (pc := 11) (L := [some (.inr (.inr (some (12, 0)))), some (.inl a1), none]) (st := []) (m' := m4) (v := some (.inl r5)) rfl (k_X12_isSign d (by omega) 42 _ _ hv) ?_
    show mm_E (d + 1) 177 (11, [some (.inr (.inr (some (12, 0)))), some (.inl a1), none], [.inl r5], m4) (.inl none, r, 0, 0)
    refine e_join (fun k6 => k6 = some ol3 → mm_E (d + 1) 177 (23, [some (.inr (.inr (some (12, 0)))), some (.inl a1), none], [], m4) (.inl none, r, 0, 0)) hres (fun  hres => ?_) (fun k6 hk6 hres => ?_)
    · refine e_steps 2 (s' := (26, [some (.inr (.inr (some (12, 0)))), some (.inl a1), none], [.inl 42, .inr (.inr (some (12, 0)))], m4)) rfl ?_
      obtain ⟨r7, hv, hres⟩ := mm_b1_some hres
      refine e_call0 (pc := 29) (L := [some (.inr (.inr (some (12, 0)))), some (.inl a1), none]) (st := []) (m' := m4) (v := some (.inl r7)) rfl (k_X12_isSign d (by omega) 42 _ _ hv) ?_
      show mm_E (d + 1) 177 (29, [some (.inr (.inr (some (12, 0)))), some (.inl a1), none], [.inl r7], m4) (.inl none, r, 0, 0)
      refine e_join (fun k9 => ∀ (w8 : Int32), k9 w8 = some ol3 → mm_E (d + 1) 177 (37, [some (.inr (.inr (some (12, 0)))), some (.inl a1), none], [.inl w8], m4) (.inl none, r, 0, 0)) hres (fun w8 hres => ?_) (fun k9 hk9 hres => ?_)
      · refine e_steps 2 (s' := (39, [some (.inr (.inr (some (12, 0)))), some (.inl a1), some (.inl w8)], [.inr (.inr (some (12, 0)))], m4)) rfl ?_
        obtain ⟨m11, hv, hres⟩ := mm_b1_some hres
        refine e_call0 (pc := 42) (L := [some (.inr (.inr (some (12, 0)))), some (.inl a1), some (.inl w8)]) (st := []) (m' := m11) (v := none) rfl (k_X12_step d (by omega)  _ _ hv) ?_
        show mm_E (d + 1) 177 (42, [some (.inr (.inr (some (12, 0)))), some (.inl a1), some (.inl w8)], [], m11) (.inl none, r, 0, 0)
        refine e_steps 2 (s' := (44, [some (.inr (.inr (some (12, 0)))), some (.inl a1), some (.inl w8)], [.inl a1, .inr (.inr (some (12, 0)))], m11)) rfl ?_
        obtain ⟨m13, hv, hres⟩ := mm_b1_some hres
        refine e_call0 (pc := 47) (L := [some (.inr (.inr (some (12, 0)))), some (.inl a1), some (.inl w8)]) (st := []) (m' := m13) (v := none) rfl (k_X12_readPoint RF e0 hRF hB d (by omega) a1 _ _ hv) ?_
        show mm_E (d + 1) 177 (47, [some (.inr (.inr (some (12, 0)))), some (.inl a1), some (.inl w8)], [], m13) (.inl none, r, 0, 0)
        refine e_steps 2 (s' := (49, [some (.inr (.inr (some (12, 0)))), some (.inl a1), some (.inl w8)], [.inl w8, .inr (.inr (some (12, 0)))], m13)) rfl ?_
        obtain ⟨m15, hv, hres⟩ := mm_b1_some hres
        refine e_call0 (pc := 52) (L := [some (.inr (.inr (some (12, 0)))), some (.inl a1), some (.inl w8)]) (st := []) (m' := m15) (v := none) rfl (k_X12_emit d (by omega) w8 _ _ hv) ?_
        show mm_E (d + 1) 177 (52, [some (.inr (.inr (some (12, 0)))), some (.inl a1), some (.inl w8)], [], m15) (.inl none, r, 0, 0)
        refine e_steps 1 (s' := (5, [some (.inr (.inr (some (12, 0)))), some (.inl a1), some (.inl w8)], [], m15)) rfl ?_
        obtain rfl := Option.some.inj hres
        exact e_mask (L' := [some (.inr (.inr (some (12, 0)))), some (.inl a1), none]) rfl (hcl3 _ rfl)
      · refine e_if (s1 := (36, [some (.inr (.inr (some (12, 0)))), some (.inl a1), none], [], m4)) (s2 := (32, [some (.inr (.inr (some (12, 0)))), some (.inl a1), none], [], m4)) rfl hres (fun hc hres => ?_) (fun hc hres => ?_)
        · refine e_steps 1 (s' := (37, [some (.inr (.inr (some (12, 0)))), some (.inl a1), none], [.inl 4], m4)) rfl ?_
          exact e_mask (L' := [some (.inr (.inr (some (12, 0)))), some (.inl a1), none]) rfl (hk9 _ hres)
        · refine e_steps 2 (s' := (37, [some (.inr (.inr (some (12, 0)))), some (.inl a1), none], [.inl 3], m4)) rfl ?_
          exact e_mask (L' := [some (.inr (.inr (some (12, 0)))), some (.inl a1), none]) rfl (hk9 _ hres)
    · refine e_if (s1 := (23, [some (.inr (.inr (some (12, 0)))), some (.inl a1), none], [], m4)) (s2 := (14, [some (.inr (.inr (some (12, 0)))), some (.inl a1), none], [], m4)) rfl hres (fun hc hres => ?_) (fun hc hres => ?_)
      · exact e_mask (L' := [some (.inr (.inr (some (12, 0)))), some (.inl a1), none]) rfl (hk6  hres)
      · refine e_steps 2 (s' := (17, [some (.inr (.inr (some (12, 0)))), some (.inl a1), none], [.inl 47, .inr (.inr (some (12, 0)))], m4)) rfl ?_
        obtain ⟨r16, hv, hres⟩ := mm_b1_some hres
        refine e_call0 (pc := 20) (L := [some (.inr (.inr (some (12, 0)))), some (.inl a1), none]) (st := []) (m' := m4) (v := some (.inl r16)) rfl (k_X12_isSign d (by omega) 47 _ _ hv) ?_
        show mm_E (d + 1) 177 (20, [some (.inr (.inr (some (12, 0)))), some (.inl a1), none], [.inl r16], m4) (.inl none, r, 0, 0)
        refine e_if (s1 := (55, [some (.inr (.inr (some (12, 0)))), some (.inl a1), none], [], m4)) (s2 := (23, [some (.inr (.inr (some (12, 0)))), some (.inl a1), none], [], m4)) rfl hres (fun hc hres => ?_) (fun hc hres => ?_)
        · obtain rfl := Option.some.inj hres
          exact e_mask (L' := [none, none, none]) rfl (hxl3 _ rfl)
        · exact e_mask (L' := [some (.inr (.inr (some (12, 0)))), some (.inl a1), none]) rfl (hk6  hres)
/-- GlassThreadsModel.readSum(I)V -/
def f_X12_readSum (RF : Int32 → mm_M → Option (mm_M)) (a1 : Int32) (m : mm_M) : Option (mm_M) :=
mm_b1 (f_X12_readProduct RF a1 m) fun m2 =>
(mm_b1 (mm_loop (σ := mm_M) (ρ := (mm_M)) (fun (m4 : mm_M) => (mm_b1 (f_X12_isSign 43 m4) fun r5 =>
mm_let ((mm_b1 (f_X12_isSign 43 m4) fun r7 =>
mm_let (fun (w8 : Int32) => (mm_b1 (f_X12_step m4) fun m11 =>
mm_b1 (f_X12_readProduct RF a1 m11) fun m13 =>
mm_b1 (f_X12_emit w8 m13) fun m15 =>
some (.inl m15) : Option ((mm_M) ⊕ ((mm_M))))) fun k9 =>
if r7 = 0 then (k9 2)
else (k9 1) : Option ((mm_M) ⊕ ((mm_M))))) fun k6 =>
if r5 ≠ 0 then (k6)
else (mm_b1 (f_X12_isSign 45 m4) fun r16 =>
if r16 = 0 then (some (.inr m4))
else (k6)) : Option ((mm_M) ⊕ ((mm_M))))) mm_fu m2) fun m17 =>
some m17)
set_option maxHeartbeats 4000000 in
set_option maxRecDepth 100000 in
theorem k_X12_readSum (RF : Int32 → mm_M → Option (mm_M)) (e0 : Nat) (hRF : ∀ (a1 : Int32) (m : mm_M) (r : mm_M), RF a1 m = some r → ∀ d, e0 ≤ d → mm_X d 181 [.inr (.inr (some (12, 0))), .inl a1] m (.inl none, r, 0, 0)) (hB : 2 ≤ e0) (d : Nat) (hd : e0 + 3 ≤ d) (a1 : Int32) (m : mm_M) (r : mm_M) (hres : f_X12_readSum RF a1 m = some r) : mm_X d 178 [.inr (.inr (some (12, 0))), .inl a1] m (.inl none, r, 0, 0) := by
  unfold f_X12_readSum at hres
  obtain ⟨d, rfl⟩ : ∃ e, d = e + 1 := ⟨d - 1, by omega⟩
  show mm_E (d + 1) 178 (0, [some (.inr (.inr (some (12, 0)))), some (.inl a1), none], [], m) (.inl none, r, 0, 0)
  refine e_steps 2 (s' := (2, [some (.inr (.inr (some (12, 0)))), some (.inl a1), none], [.inl a1, .inr (.inr (some (12, 0)))], m)) rfl ?_
  obtain ⟨m2, hv, hres⟩ := mm_b1_some hres
  refine e_call0 (pc := 5) (L := [some (.inr (.inr (some (12, 0)))), some (.inl a1), none]) (st := []) (m' := m2) (v := none) rfl (k_X12_readProduct RF e0 hRF hB d (by omega) a1 _ _ hv) ?_
  show mm_E (d + 1) 178 (5, [some (.inr (.inr (some (12, 0)))), some (.inl a1), none], [], m2) (.inl none, r, 0, 0)
  refine e_mask (L' := [some (.inr (.inr (some (12, 0)))), some (.inl a1), none]) rfl ?_
  refine e_loopb (φ := fun s => (5, [some (.inr (.inr (some (12, 0)))), some (.inl a1), none], [], s)) (K := fun t => mm_E (d + 1) 178 (55, [none, none, none], [], t) (.inl none, r, 0, 0)) hres (fun m17 hres => ?_) (fun m4 ol3 hres hcl3 hxl3 => ?_)
  · show mm_E (d + 1) 178 (55, [none, none, none], [], m17) (.inl none, r, 0, 0)
    obtain rfl := Option.some.inj hres
    exact e_ret rfl rfl
  · show mm_E (d + 1) 178 (5, [some (.inr (.inr (some (12, 0)))), some (.inl a1), none], [], m4) (.inl none, r, 0, 0)
    refine e_steps 2 (s' := (8, [some (.inr (.inr (some (12, 0)))), some (.inl a1), none], [.inl 43, .inr (.inr (some (12, 0)))], m4)) rfl ?_
    obtain ⟨r5, hv, hres⟩ := mm_b1_some hres
    refine e_call0 (pc := 11) (L := [some (.inr (.inr (some (12, 0)))), some (.inl a1), none]) (st := []) (m' := m4) (v := some (.inl r5)) rfl (k_X12_isSign d (by omega) 43 _ _ hv) ?_
    show mm_E (d + 1) 178 (11, [some (.inr (.inr (some (12, 0)))), some (.inl a1), none], [.inl r5], m4) (.inl none, r, 0, 0)
    refine e_join (fun k6 => k6 = some ol3 → mm_E (d + 1) 178 (23, [some (.inr (.inr (some (12, 0)))), some (.inl a1), none], [], m4) (.inl none, r, 0, 0)) hres (fun  hres => ?_) (fun k6 hk6 hres => ?_)
    · refine e_steps 2 (s' := (26, [some (.inr (.inr (some (12, 0)))), some (.inl a1), none], [.inl 43, .inr (.inr (some (12, 0)))], m4)) rfl ?_
      obtain ⟨r7, hv, hres⟩ := mm_b1_some hres
      refine e_call0 (pc := 29) (L := [some (.inr (.inr (some (12, 0)))), some (.inl a1), none]) (st := []) (m' := m4) (v := some (.inl r7)) rfl (k_X12_isSign d (by omega) 43 _ _ hv) ?_
      show mm_E (d + 1) 178 (29, [some (.inr (.inr (some (12, 0)))), some (.inl a1), none], [.inl r7], m4) (.inl none, r, 0, 0)
      refine e_join (fun k9 => ∀ (w8 : Int32), k9 w8 = some ol3 → mm_E (d + 1) 178 (37, [some (.inr (.inr (some (12, 0)))), some (.inl a1), none], [.inl w8], m4) (.inl none, r, 0, 0)) hres (fun w8 hres => ?_) (fun k9 hk9 hres => ?_)
      · refine e_steps 2 (s' := (39, [some (.inr (.inr (some (12, 0)))), some (.inl a1), some (.inl w8)], [.inr (.inr (some (12, 0)))], m4)) rfl ?_
        obtain ⟨m11, hv, hres⟩ := mm_b1_some hres
        refine e_call0 (pc := 42) (L := [some (.inr (.inr (some (12, 0)))), some (.inl a1), some (.inl w8)]) (st := []) (m' := m11) (v := none) rfl (k_X12_step d (by omega)  _ _ hv) ?_
        show mm_E (d + 1) 178 (42, [some (.inr (.inr (some (12, 0)))), some (.inl a1), some (.inl w8)], [], m11) (.inl none, r, 0, 0)
        refine e_steps 2 (s' := (44, [some (.inr (.inr (some (12, 0)))), some (.inl a1), some (.inl w8)], [.inl a1, .inr (.inr (some (12, 0)))], m11)) rfl ?_
        obtain ⟨m13, hv, hres⟩ := mm_b1_some hres
        refine e_call0 (pc := 47) (L := [some (.inr (.inr (some (12, 0)))), some (.inl a1), some (.inl w8)]) (st := []) (m' := m13) (v := none) rfl (k_X12_readProduct RF e0 hRF hB d (by omega) a1 _ _ hv) ?_
        show mm_E (d + 1) 178 (47, [some (.inr (.inr (some (12, 0)))), some (.inl a1), some (.inl w8)], [], m13) (.inl none, r, 0, 0)
        refine e_steps 2 (s' := (49, [some (.inr (.inr (some (12, 0)))), some (.inl a1), some (.inl w8)], [.inl w8, .inr (.inr (some (12, 0)))], m13)) rfl ?_
        obtain ⟨m15, hv, hres⟩ := mm_b1_some hres
        refine e_call0 (pc := 52) (L := [some (.inr (.inr (some (12, 0)))), some (.inl a1), some (.inl w8)]) (st := []) (m' := m15) (v := none) rfl (k_X12_emit d (by omega) w8 _ _ hv) ?_
        show mm_E (d + 1) 178 (52, [some (.inr (.inr (some (12, 0)))), some (.inl a1), some (.inl w8)], [], m15) (.inl none, r, 0, 0)
        refine e_steps 1 (s' := (5, [some (.inr (.inr (some (12, 0)))), some (.inl a1), some (.inl w8)], [], m15)) rfl ?_
        obtain rfl := Option.some.inj hres
        exact e_mask (L' := [some (.inr (.inr (some (12, 0)))), some (.inl a1), none]) rfl (hcl3 _ rfl)
      · refine e_if (s1 := (36, [some (.inr (.inr (some (12, 0)))), some (.inl a1), none], [], m4)) (s2 := (32, [some (.inr (.inr (some (12, 0)))), some (.inl a1), none], [], m4)) rfl hres (fun hc hres => ?_) (fun hc hres => ?_)
        · refine e_steps 1 (s' := (37, [some (.inr (.inr (some (12, 0)))), some (.inl a1), none], [.inl 2], m4)) rfl ?_
          exact e_mask (L' := [some (.inr (.inr (some (12, 0)))), some (.inl a1), none]) rfl (hk9 _ hres)
        · refine e_steps 2 (s' := (37, [some (.inr (.inr (some (12, 0)))), some (.inl a1), none], [.inl 1], m4)) rfl ?_
          exact e_mask (L' := [some (.inr (.inr (some (12, 0)))), some (.inl a1), none]) rfl (hk9 _ hres)
    · refine e_if (s1 := (23, [some (.inr (.inr (some (12, 0)))), some (.inl a1), none], [], m4)) (s2 := (14, [some (.inr (.inr (some (12, 0)))), some (.inl a1), none], [], m4)) rfl hres (fun hc hres => ?_) (fun hc hres => ?_)
      · exact e_mask (L' := [some (.inr (.inr (some (12, 0)))), some (.inl a1), none]) rfl (hk6  hres)
      · refine e_steps 2 (s' := (17, [some (.inr (.inr (some (12, 0)))), some (.inl a1), none], [.inl 45, .inr (.inr (some (12, 0)))], m4)) rfl ?_
        obtain ⟨r16, hv, hres⟩ := mm_b1_some hres
        refine e_call0 (pc := 20) (L := [some (.inr (.inr (some (12, 0)))), some (.inl a1), none]) (st := []) (m' := m4) (v := some (.inl r16)) rfl (k_X12_isSign d (by omega) 45 _ _ hv) ?_
        show mm_E (d + 1) 178 (20, [some (.inr (.inr (some (12, 0)))), some (.inl a1), none], [.inl r16], m4) (.inl none, r, 0, 0)
        refine e_if (s1 := (55, [some (.inr (.inr (some (12, 0)))), some (.inl a1), none], [], m4)) (s2 := (23, [some (.inr (.inr (some (12, 0)))), some (.inl a1), none], [], m4)) rfl hres (fun hc hres => ?_) (fun hc hres => ?_)
        · obtain rfl := Option.some.inj hres
          exact e_mask (L' := [none, none, none]) rfl (hxl3 _ rfl)
        · exact e_mask (L' := [some (.inr (.inr (some (12, 0)))), some (.inl a1), none]) rfl (hk6  hres)
/-- GlassThreadsModel.readNot(I)V -/
def f_X12_readNot (RF : Int32 → mm_M → Option (mm_M)) (a1 : Int32) (m : mm_M) : Option (mm_M) :=
(mm_b1 (mm_loop (σ := Int32 × mm_M) (ρ := (mm_M) ⊕ (Int32 × mm_M)) (fun (s : Int32 × mm_M) => match s with
| (v2, m3) => (mm_b1 (f_X12_is 26 m3) fun r4 =>
if r4 = 0 then (some (.inr (.inr (v2, m3))))
else (if v2 ≠ 6 then (mm_let (v2 + 1) fun v5 =>
mm_b1 (f_X12_step m3) fun m7 =>
some (.inl (v5, m7)))
else (some (.inr (.inl m3)))) : Option ((Int32 × mm_M) ⊕ ((mm_M) ⊕ (Int32 × mm_M))))) mm_fu (0, m)) fun t => match t with
| .inl m8 => mm_b1 (f_X12_wrong 2 m8) fun m10 =>
some m10
| .inr (v11, m12) => mm_b1 (f_X12_readSum RF a1 m12) fun m14 =>
mm_b1 (f_X12_isSign 60 m14) fun r15 =>
mm_let ((mm_b1 (f_X12_isSign 60 m14) fun r17 =>
mm_let (fun (w18 : Int32) => (mm_b1 (f_X12_step m14) fun m21 =>
mm_b1 (f_X12_readSum RF a1 m21) fun m23 =>
mm_b1 (f_X12_emit w18 m23) fun m25 =>
(mm_b1 (mm_loop (σ := Int32 × mm_M) (ρ := (mm_M)) (fun (s : Int32 × mm_M) => match s with
| (v27, m28) => (if v11 ≤ v27 then (some (.inr m28))
else (mm_b1 (f_X12_emit 9 m28) fun m30 =>
mm_let (v27 + 1) fun v31 =>
some (.inl (v31, m30))) : Option ((Int32 × mm_M) ⊕ ((mm_M))))) mm_fu (0, m25)) fun m32 =>
some m32) : Option (mm_M))) fun k19 =>
if r17 = 0 then (k19 6)
else (k19 5) : Option (mm_M))) fun k16 =>
if r15 ≠ 0 then (k16)
else (mm_b1 (f_X12_isSign 61 m14) fun r33 =>
if r33 = 0 then ((mm_b1 (mm_loop (σ := Int32 × mm_M) (ρ := (mm_M)) (fun (s : Int32 × mm_M) => match s with
| (v35, m36) => (if v11 ≤ v35 then (some (.inr m36))
else (mm_b1 (f_X12_emit 9 m36) fun m38 =>
mm_let (v35 + 1) fun v39 =>
some (.inl (v39, m38))) : Option ((Int32 × mm_M) ⊕ ((mm_M))))) mm_fu (0, m14)) fun m40 =>
some m40))
else (k16)))
set_option maxHeartbeats 4000000 in
set_option maxRecDepth 100000 in
theorem k_X12_readNot (RF : Int32 → mm_M → Option (mm_M)) (e0 : Nat) (hRF : ∀ (a1 : Int32) (m : mm_M) (r : mm_M), RF a1 m = some r → ∀ d, e0 ≤ d → mm_X d 181 [.inr (.inr (some (12, 0))), .inl a1] m (.inl none, r, 0, 0)) (hB : 2 ≤ e0) (d : Nat) (hd : e0 + 4 ≤ d) (a1 : Int32) (m : mm_M) (r : mm_M) (hres : f_X12_readNot RF a1 m = some r) : mm_X d 179 [.inr (.inr (some (12, 0))), .inl a1] m (.inl none, r, 0, 0) := by
  unfold f_X12_readNot at hres
  obtain ⟨d, rfl⟩ : ∃ e, d = e + 1 := ⟨d - 1, by omega⟩
  show mm_E (d + 1) 179 (0, [some (.inr (.inr (some (12, 0)))), some (.inl a1), none, none], [], m) (.inl none, r, 0, 0)
  refine e_steps 2 (s' := (2, [some (.inr (.inr (some (12, 0)))), some (.inl a1), some (.inl 0), none], [], m)) rfl ?_
  refine e_mask (L' := [some (.inr (.inr (some (12, 0)))), some (.inl a1), some (.inl 0), none]) rfl ?_
  refine e_loopb (φ := fun s => (2, [some (.inr (.inr (some (12, 0)))), some (.inl a1), some (.inl s.1), none], [], s.2)) (K := fun t => match t with | .inl t => mm_E (d + 1) 179 (18, [some (.inr (.inr (some (12, 0)))), none, none, none], [], t) (.inl none, r, 0, 0) | .inr t => mm_E (d + 1) 179 (34, [some (.inr (.inr (some (12, 0)))), some (.inl a1), some (.inl t.1), none], [], t.2) (.inl none, r, 0, 0)) hres (fun t hres => ?_) (fun s ol1 hres hcl1 hxl1 => ?_)
  · rcases t with m8 | ⟨v11, m12⟩
    · show mm_E (d + 1) 179 (18, [some (.inr (.inr (some (12, 0)))), none, none, none], [], m8) (.inl none, r, 0, 0)
      refine e_steps 2 (s' := (20, [some (.inr (.inr (some (12, 0)))), none, none, none], [.inl 2, .inr (.inr (some (12, 0)))], m8)) rfl ?_
      obtain ⟨m10, hv, hres⟩ := mm_b1_some hres
      refine e_call0 (pc := 23) (L := [some (.inr (.inr (some (12, 0)))), none, none, none]) (st := []) (m' := m10) (v := none) rfl (k_X12_wrong d (by omega) 2 _ _ hv) ?_
      show mm_E (d + 1) 179 (23, [some (.inr (.inr (some (12, 0)))), none, none, none], [], m10) (.inl none, r, 0, 0)
      obtain rfl := Option.some.inj hres
      exact e_ret rfl rfl
    · show mm_E (d + 1) 179 (34, [some (.inr (.inr (some (12, 0)))), some (.inl a1), some (.inl v11), none], [], m12) (.inl none, r, 0, 0)
      refine e_steps 2 (s' := (36, [some (.inr (.inr (some (12, 0)))), some (.inl a1), some (.inl v11), none], [.inl a1, .inr (.inr (some (12, 0)))], m12)) rfl ?_
      obtain ⟨m14, hv, hres⟩ := mm_b1_some hres
      refine e_call0 (pc := 39) (L := [some (.inr (.inr (some (12, 0)))), some (.inl a1), some (.inl v11), none]) (st := []) (m' := m14) (v := none) rfl (k_X12_readSum RF e0 hRF hB d (by omega) a1 _ _ hv) ?_
      show mm_E (d + 1) 179 (39, [some (.inr (.inr (some (12, 0)))), some (.inl a1), some (.inl v11), none], [], m14) (.inl none, r, 0, 0)
      refine e_steps 2 (s' := (42, [some (.inr (.inr (some (12, 0)))), some (.inl a1), some (.inl v11), none], [.inl 60, .inr (.inr (some (12, 0)))], m14)) rfl ?_
      obtain ⟨r15, hv, hres⟩ := mm_b1_some hres
      refine e_call0 (pc := 45) (L := [some (.inr (.inr (some (12, 0)))), some (.inl a1), some (.inl v11), none]) (st := []) (m' := m14) (v := some (.inl r15)) rfl (k_X12_isSign d (by omega) 60 _ _ hv) ?_
      show mm_E (d + 1) 179 (45, [some (.inr (.inr (some (12, 0)))), some (.inl a1), some (.inl v11), none], [.inl r15], m14) (.inl none, r, 0, 0)
      refine e_join (fun k16 => k16 = some r → mm_E (d + 1) 179 (57, [some (.inr (.inr (some (12, 0)))), some (.inl a1), some (.inl v11), none], [], m14) (.inl none, r, 0, 0)) hres (fun  hres => ?_) (fun k16 hk16 hres => ?_)
      · refine e_steps 2 (s' := (60, [some (.inr (.inr (some (12, 0)))), some (.inl a1), some (.inl v11), none], [.inl 60, .inr (.inr (some (12, 0)))], m14)) rfl ?_
        obtain ⟨r17, hv, hres⟩ := mm_b1_some hres
        refine e_call0 (pc := 63) (L := [some (.inr (.inr (some (12, 0)))), some (.inl a1), some (.inl v11), none]) (st := []) (m' := m14) (v := some (.inl r17)) rfl (k_X12_isSign d (by omega) 60 _ _ hv) ?_
        show mm_E (d + 1) 179 (63, [some (.inr (.inr (some (12, 0)))), some (.inl a1), some (.inl v11), none], [.inl r17], m14) (.inl none, r, 0, 0)
        refine e_join (fun k19 => ∀ (w18 : Int32), k19 w18 = some r → mm_E (d + 1) 179 (72, [some (.inr (.inr (some (12, 0)))), some (.inl a1), some (.inl v11), none], [.inl w18], m14) (.inl none, r, 0, 0)) hres (fun w18 hres => ?_) (fun k19 hk19 hres => ?_)
        · refine e_steps 2 (s' := (74, [some (.inr (.inr (some (12, 0)))), some (.inl a1), some (.inl v11), some (.inl w18)], [.inr (.inr (some (12, 0)))], m14)) rfl ?_
          obtain ⟨m21, hv, hres⟩ := mm_b1_some hres
          refine e_call0 (pc := 77) (L := [some (.inr (.inr (some (12, 0)))), some (.inl a1), some (.inl v11), some (.inl w18)]) (st := []) (m' := m21) (v := none) rfl (k_X12_step d (by omega)  _ _ hv) ?_
          show mm_E (d + 1) 179 (77, [some (.inr (.inr (some (12, 0)))), some (.inl a1), some (.inl v11), some (.inl w18)], [], m21) (.inl none, r, 0, 0)
          refine e_steps 2 (s' := (79, [some (.inr (.inr (some (12, 0)))), some (.inl a1), some (.inl v11), some (.inl w18)], [.inl a1, .inr (.inr (some (12, 0)))], m21)) rfl ?_
          obtain ⟨m23, hv, hres⟩ := mm_b1_some hres
          refine e_call0 (pc := 82) (L := [some (.inr (.inr (some (12, 0)))), some (.inl a1), some (.inl v11), some (.inl w18)]) (st := []) (m' := m23) (v := none) rfl (k_X12_readSum RF e0 hRF hB d (by omega) a1 _ _ hv) ?_
          show mm_E (d + 1) 179 (82, [some (.inr (.inr (some (12, 0)))), some (.inl a1), some (.inl v11), some (.inl w18)], [], m23) (.inl none, r, 0, 0)
          refine e_steps 2 (s' := (84, [some (.inr (.inr (some (12, 0)))), some (.inl a1), some (.inl v11), some (.inl w18)], [.inl w18, .inr (.inr (some (12, 0)))], m23)) rfl ?_
          obtain ⟨m25, hv, hres⟩ := mm_b1_some hres
          refine e_call0 (pc := 87) (L := [some (.inr (.inr (some (12, 0)))), some (.inl a1), some (.inl v11), some (.inl w18)]) (st := []) (m' := m25) (v := none) rfl (k_X12_emit d (by omega) w18 _ _ hv) ?_
          show mm_E (d + 1) 179 (87, [some (.inr (.inr (some (12, 0)))), some (.inl a1), some (.inl v11), some (.inl w18)], [], m25) (.inl none, r, 0, 0)
          refine e_mask (L' := [some (.inr (.inr (some (12, 0)))), none, some (.inl v11), none]) rfl ?_
          refine e_steps 2 (s' := (89, [some (.inr (.inr (some (12, 0)))), none, some (.inl v11), some (.inl 0)], [], m25)) rfl ?_
          refine e_mask (L' := [some (.inr (.inr (some (12, 0)))), none, some (.inl v11), some (.inl 0)]) rfl ?_
          refine e_loopb (φ := fun s => (89, [some (.inr (.inr (some (12, 0)))), none, some (.inl v11), some (.inl s.1)], [], s.2)) (K := fun t => mm_E (d + 1) 179 (106, [none, none, none, none], [], t) (.inl none, r, 0, 0)) hres (fun m32 hres => ?_) (fun s ol26 hres hcl26 hxl26 => ?_)
          · show mm_E (d + 1) 179 (106, [none, none, none, none], [], m32) (.inl none, r, 0, 0)
            obtain rfl := Option.some.inj hres
            exact e_ret rfl rfl
          · obtain ⟨v27, m28⟩ := s
            show mm_E (d + 1) 179 (89, [some (.inr (.inr (some (12, 0)))), none, some (.inl v11), some (.inl v27)], [], m28) (.inl none, r, 0, 0)
            refine e_steps 2 (s' := (91, [some (.inr (.inr (some (12, 0)))), none, some (.inl v11), some (.inl v27)], [.inl v11, .inl v27], m28)) rfl ?_
            refine e_if (s1 := (106, [some (.inr (.inr (some (12, 0)))), none, some (.inl v11), some (.inl v27)], [], m28)) (s2 := (94, [some (.inr (.inr (some (12, 0)))), none, some (.inl v11), some (.inl v27)], [], m28)) rfl hres (fun hc hres => ?_) (fun hc hres => ?_)
            · obtain rfl := Option.some.inj hres
              exact e_mask (L' := [none, none, none, none]) rfl (hxl26 _ rfl)
            · refine e_steps 2 (s' := (97, [some (.inr (.inr (some (12, 0)))), none, some (.inl v11), some (.inl v27)], [.inl 9, .inr (.inr (some (12, 0)))], m28)) rfl ?_
              obtain ⟨m30, hv, hres⟩ := mm_b1_some hres
              refine e_call0 (pc := 100) (L := [some (.inr (.inr (some (12, 0)))), none, some (.inl v11), some (.inl v27)]) (st := []) (m' := m30) (v := none) rfl (k_X12_emit d (by omega) 9 _ _ hv) ?_
              show mm_E (d + 1) 179 (100, [some (.inr (.inr (some (12, 0)))), none, some (.inl v11), some (.inl v27)], [], m30) (.inl none, r, 0, 0)
              refine e_steps 1 (s' := (103, [some (.inr (.inr (some (12, 0)))), none, some (.inl v11), some (.inl (v27 + 1))], [], m30)) rfl ?_
              refine e_let (fun (v31 : Int32) => (103, [some (.inr (.inr (some (12, 0)))), none, some (.inl v11), some (.inl v31)], [], m30)) hres (fun v31 hres => ?_)
              refine e_steps 1 (s' := (89, [some (.inr (.inr (some (12, 0)))), none, some (.inl v11), some (.inl v31)], [], m30)) rfl ?_
              obtain rfl := Option.some.inj hres
              exact e_mask (L' := [some (.inr (.inr (some (12, 0)))), none, some (.inl v11), some (.inl v31)]) rfl (hcl26 _ rfl)
        · refine e_if (s1 := (70, [some (.inr (.inr (some (12, 0)))), some (.inl a1), some (.inl v11), none], [], m14)) (s2 := (66, [some (.inr (.inr (some (12, 0)))), some (.inl a1), some (.inl v11), none], [], m14)) rfl hres (fun hc hres => ?_) (fun hc hres => ?_)
          · refine e_steps 1 (s' := (72, [some (.inr (.inr (some (12, 0)))), some (.inl a1), some (.inl v11), none], [.inl 6], m14)) rfl ?_
            exact e_mask (L' := [some (.inr (.inr (some (12, 0)))), some (.inl a1), some (.inl v11), none]) rfl (hk19 _ hres)
          · refine e_steps 2 (s' := (72, [some (.inr (.inr (some (12, 0)))), some (.inl a1), some (.inl v11), none], [.inl 5], m14)) rfl ?_
            exact e_mask (L' := [some (.inr (.inr (some (12, 0)))), some (.inl a1), some (.inl v11), none]) rfl (hk19 _ hres)
      · refine e_if (s1 := (57, [some (.inr (.inr (some (12, 0)))), some (.inl a1), some (.inl v11), none], [], m14)) (s2 := (48, [some (.inr (.inr (some (12, 0)))), some (.inl a1), some (.inl v11), none], [], m14)) rfl hres (fun hc hres => ?_) (fun hc hres => ?_)
        · exact e_mask (L' := [some (.inr (.inr (some (12, 0)))), some (.inl a1), some (.inl v11), none]) rfl (hk16  hres)
        · refine e_steps 2 (s' := (51, [some (.inr (.inr (some (12, 0)))), some (.inl a1), some (.inl v11), none], [.inl 61, .inr (.inr (some (12, 0)))], m14)) rfl ?_
          obtain ⟨r33, hv, hres⟩ := mm_b1_some hres
          refine e_call0 (pc := 54) (L := [some (.inr (.inr (some (12, 0)))), some (.inl a1), some (.inl v11), none]) (st := []) (m' := m14) (v := some (.inl r33)) rfl (k_X12_isSign d (by omega) 61 _ _ hv) ?_
          show mm_E (d + 1) 179 (54, [some (.inr (.inr (some (12, 0)))), some (.inl a1), some (.inl v11), none], [.inl r33], m14) (.inl none, r, 0, 0)
          refine e_if (s1 := (87, [some (.inr (.inr (some (12, 0)))), some (.inl a1), some (.inl v11), none], [], m14)) (s2 := (57, [some (.inr (.inr (some (12, 0)))), some (.inl a1), some (.inl v11), none], [], m14)) rfl hres (fun hc hres => ?_) (fun hc hres => ?_)
          · refine e_mask (L' := [some (.inr (.inr (some (12, 0)))), none, some (.inl v11), none]) rfl ?_
            refine e_steps 2 (s' := (89, [some (.inr (.inr (some (12, 0)))), none, some (.inl v11), some (.inl 0)], [], m14)) rfl ?_
            refine e_mask (L' := [some (.inr (.inr (some (12, 0)))), none, some (.inl v11), some (.inl 0)]) rfl ?_
            refine e_loopb (φ := fun s => (89, [some (.inr (.inr (some (12, 0)))), none, some (.inl v11), some (.inl s.1)], [], s.2)) (K := fun t => mm_E (d + 1) 179 (106, [none, none, none, none], [], t) (.inl none, r, 0, 0)) hres (fun m40 hres => ?_) (fun s ol34 hres hcl34 hxl34 => ?_)
            · show mm_E (d + 1) 179 (106, [none, none, none, none], [], m40) (.inl none, r, 0, 0)
              obtain rfl := Option.some.inj hres
              exact e_ret rfl rfl
            · obtain ⟨v35, m36⟩ := s
              show mm_E (d + 1) 179 (89, [some (.inr (.inr (some (12, 0)))), none, some (.inl v11), some (.inl v35)], [], m36) (.inl none, r, 0, 0)
              refine e_steps 2 (s' := (91, [some (.inr (.inr (some (12, 0)))), none, some (.inl v11), some (.inl v35)], [.inl v11, .inl v35], m36)) rfl ?_
              refine e_if (s1 := (106, [some (.inr (.inr (some (12, 0)))), none, some (.inl v11), some (.inl v35)], [], m36)) (s2 := (94, [some (.inr (.inr (some (12, 0)))), none, some (.inl v11), some (.inl v35)], [], m36)) rfl hres (fun hc hres => ?_) (fun hc hres => ?_)
              · obtain rfl := Option.some.inj hres
                exact e_mask (L' := [none, none, none, none]) rfl (hxl34 _ rfl)
              · refine e_steps 2 (s' := (97, [some (.inr (.inr (some (12, 0)))), none, some (.inl v11), some (.inl v35)], [.inl 9, .inr (.inr (some (12, 0)))], m36)) rfl ?_
                obtain ⟨m38, hv, hres⟩ := mm_b1_some hres
                refine e_call0 (pc := 100) (L := [some (.inr (.inr (some (12, 0)))), none, some (.inl v11), some (.inl v35)]) (st := []) (m' := m38) (v := none) rfl (k_X12_emit d (by omega) 9 _ _ hv) ?_
                show mm_E (d + 1) 179 (100, [some (.inr (.inr (some (12, 0)))), none, some (.inl v11), some (.inl v35)], [], m38) (.inl none, r, 0, 0)
                refine e_steps 1 (s' := (103, [some (.inr (.inr (some (12, 0)))), none, some (.inl v11), some (.inl (v35 + 1))], [], m38)) rfl ?_
                refine e_let (fun (v39 : Int32) => (103, [some (.inr (.inr (some (12, 0)))), none, some (.inl v11), some (.inl v39)], [], m38)) hres (fun v39 hres => ?_)
                refine e_steps 1 (s' := (89, [some (.inr (.inr (some (12, 0)))), none, some (.inl v11), some (.inl v39)], [], m38)) rfl ?_
                obtain rfl := Option.some.inj hres
                exact e_mask (L' := [some (.inr (.inr (some (12, 0)))), none, some (.inl v11), some (.inl v39)]) rfl (hcl34 _ rfl)
          · exact e_mask (L' := [some (.inr (.inr (some (12, 0)))), some (.inl a1), some (.inl v11), none]) rfl (hk16  hres)
  · obtain ⟨v2, m3⟩ := s
    show mm_E (d + 1) 179 (2, [some (.inr (.inr (some (12, 0)))), some (.inl a1), some (.inl v2), none], [], m3) (.inl none, r, 0, 0)
    refine e_steps 2 (s' := (6, [some (.inr (.inr (some (12, 0)))), some (.inl a1), some (.inl v2), none], [.inr (.inr (some (135, 26))), .inr (.inr (some (12, 0)))], m3)) rfl ?_
    obtain ⟨r4, hv, hres⟩ := mm_b1_some hres
    refine e_call0 (pc := 9) (L := [some (.inr (.inr (some (12, 0)))), some (.inl a1), some (.inl v2), none]) (st := []) (m' := m3) (v := some (.inl r4)) rfl (k_X12_is d (by omega) 26 _ _ hv) ?_
    show mm_E (d + 1) 179 (9, [some (.inr (.inr (some (12, 0)))), some (.inl a1), some (.inl v2), none], [.inl r4], m3) (.inl none, r, 0, 0)
    refine e_if (s1 := (34, [some (.inr (.inr (some (12, 0)))), some (.inl a1), some (.inl v2), none], [], m3)) (s2 := (12, [some (.inr (.inr (some (12, 0)))), some (.inl a1), some (.inl v2), none], [], m3)) rfl hres (fun hc hres => ?_) (fun hc hres => ?_)
    · obtain rfl := Option.some.inj hres
      exact e_mask (L' := [some (.inr (.inr (some (12, 0)))), some (.inl a1), some (.inl v2), none]) rfl (hxl1 _ rfl)
    · refine e_steps 2 (s' := (15, [some (.inr (.inr (some (12, 0)))), some (.inl a1), some (.inl v2), none], [.inl 6, .inl v2], m3)) rfl ?_
      refine e_if (s1 := (24, [some (.inr (.inr (some (12, 0)))), some (.inl a1), some (.inl v2), none], [], m3)) (s2 := (18, [some (.inr (.inr (some (12, 0)))), some (.inl a1), some (.inl v2), none], [], m3)) rfl hres (fun hc hres => ?_) (fun hc hres => ?_)
      · refine e_steps 1 (s' := (27, [some (.inr (.inr (some (12, 0)))), some (.inl a1), some (.inl (v2 + 1)), none], [], m3)) rfl ?_
        refine e_let (fun (v5 : Int32) => (27, [some (.inr (.inr (some (12, 0)))), some (.inl a1), some (.inl v5), none], [], m3)) hres (fun v5 hres => ?_)
        refine e_steps 1 (s' := (28, [some (.inr (.inr (some (12, 0)))), some (.inl a1), some (.inl v5), none], [.inr (.inr (some (12, 0)))], m3)) rfl ?_
        obtain ⟨m7, hv, hres⟩ := mm_b1_some hres
        refine e_call0 (pc := 31) (L := [some (.inr (.inr (some (12, 0)))), some (.inl a1), some (.inl v5), none]) (st := []) (m' := m7) (v := none) rfl (k_X12_step d (by omega)  _ _ hv) ?_
        show mm_E (d + 1) 179 (31, [some (.inr (.inr (some (12, 0)))), some (.inl a1), some (.inl v5), none], [], m7) (.inl none, r, 0, 0)
        refine e_steps 1 (s' := (2, [some (.inr (.inr (some (12, 0)))), some (.inl a1), some (.inl v5), none], [], m7)) rfl ?_
        obtain rfl := Option.some.inj hres
        exact e_mask (L' := [some (.inr (.inr (some (12, 0)))), some (.inl a1), some (.inl v5), none]) rfl (hcl1 _ rfl)
      · obtain rfl := Option.some.inj hres
        exact e_mask (L' := [some (.inr (.inr (some (12, 0)))), none, none, none]) rfl (hxl1 _ rfl)
/-- GlassThreadsModel.readAnd(I)V -/
def f_X12_readAnd (RF : Int32 → mm_M → Option (mm_M)) (a1 : Int32) (m : mm_M) : Option (mm_M) :=
mm_b1 (f_X12_readNot RF a1 m) fun m2 =>
(mm_b1 (mm_loop (σ := mm_M) (ρ := (mm_M)) (fun (m4 : mm_M) => (mm_b1 (f_X12_is 27 m4) fun r5 =>
if r5 = 0 then (some (.inr m4))
else (mm_b1 (f_X12_step m4) fun m7 =>
mm_b1 (f_X12_readNot RF a1 m7) fun m9 =>
mm_b1 (f_X12_emit 7 m9) fun m11 =>
some (.inl m11)) : Option ((mm_M) ⊕ ((mm_M))))) mm_fu m2) fun m12 =>
some m12)
set_option maxHeartbeats 4000000 in
set_option maxRecDepth 100000 in
theorem k_X12_readAnd (RF : Int32 → mm_M → Option (mm_M)) (e0 : Nat) (hRF : ∀ (a1 : Int32) (m : mm_M) (r : mm_M), RF a1 m = some r → ∀ d, e0 ≤ d → mm_X d 181 [.inr (.inr (some (12, 0))), .inl a1] m (.inl none, r, 0, 0)) (hB : 2 ≤ e0) (d : Nat) (hd : e0 + 5 ≤ d) (a1 : Int32) (m : mm_M) (r : mm_M) (hres : f_X12_readAnd RF a1 m = some r) : mm_X d 180 [.inr (.inr (some (12, 0))), .inl a1] m (.inl none, r, 0, 0) := by
  unfold f_X12_readAnd at hres
  obtain ⟨d, rfl⟩ : ∃ e, d = e + 1 := ⟨d - 1, by omega⟩
  show mm_E (d + 1) 180 (0, [some (.inr (.inr (some (12, 0)))), some (.inl a1)], [], m) (.inl none, r, 0, 0)
  refine e_steps 2 (s' := (2, [some (.inr (.inr (some (12, 0)))), some (.inl a1)], [.inl a1, .inr (.inr (some (12, 0)))], m)) rfl ?_
  obtain ⟨m2, hv, hres⟩ := mm_b1_some hres
  refine e_call0 (pc := 5) (L := [some (.inr (.inr (some (12, 0)))), some (.inl a1)]) (st := []) (m' := m2) (v := none) rfl (k_X12_readNot RF e0 hRF hB d (by omega) a1 _ _ hv) ?_
  show mm_E (d + 1) 180 (5, [some (.inr (.inr (some (12, 0)))), some (.inl a1)], [], m2) (.inl none, r, 0, 0)
  refine e_mask (L' := [some (.inr (.inr (some (12, 0)))), some (.inl a1)]) rfl ?_
  refine e_loopb (φ := fun s => (5, [some (.inr (.inr (some (12, 0)))), some (.inl a1)], [], s)) (K := fun t => mm_E (d + 1) 180 (33, [none, none], [], t) (.inl none, r, 0, 0)) hres (fun m12 hres => ?_) (fun m4 ol3 hres hcl3 hxl3 => ?_)
  · show mm_E (d + 1) 180 (33, [none, none], [], m12) (.inl none, r, 0, 0)
    obtain rfl := Option.some.inj hres
    exact e_ret rfl rfl
  · show mm_E (d + 1) 180 (5, [some (.inr (.inr (some (12, 0)))), some (.inl a1)], [], m4) (.inl none, r, 0, 0)
    refine e_steps 2 (s' := (9, [some (.inr (.inr (some (12, 0)))), some (.inl a1)], [.inr (.inr (some (135, 27))), .inr (.inr (some (12, 0)))], m4)) rfl ?_
    obtain ⟨r5, hv, hres⟩ := mm_b1_some hres
    refine e_call0 (pc := 12) (L := [some (.inr (.inr (some (12, 0)))), some (.inl a1)]) (st := []) (m' := m4) (v := some (.inl r5)) rfl (k_X12_is d (by omega) 27 _ _ hv) ?_
    show mm_E (d + 1) 180 (12, [some (.inr (.inr (some (12, 0)))), some (.inl a1)], [.inl r5], m4) (.inl none, r, 0, 0)
    refine e_if (s1 := (33, [some (.inr (.inr (some (12, 0)))), some (.inl a1)], [], m4)) (s2 := (15, [some (.inr (.inr (some (12, 0)))), some (.inl a1)], [], m4)) rfl hres (fun hc hres => ?_) (fun hc hres => ?_)
    · obtain rfl := Option.some.inj hres
      exact e_mask (L' := [none, none]) rfl (hxl3 _ rfl)
    · refine e_steps 1 (s' := (16, [some (.inr (.inr (some (12, 0)))), some (.inl a1)], [.inr (.inr (some (12, 0)))], m4)) rfl ?_
      obtain ⟨m7, hv, hres⟩ := mm_b1_some hres
      refine e_call0 (pc := 19) (L := [some (.inr (.inr (some (12, 0)))), some (.inl a1)]) (st := []) (m' := m7) (v := none) rfl (k_X12_step d (by omega)  _ _ hv) ?_
      show mm_E (d + 1) 180 (19, [some (.inr (.inr (some (12, 0)))), some (.inl a1)], [], m7) (.inl none, r, 0, 0)
      refine e_steps 2 (s' := (21, [some (.inr (.inr (some (12, 0)))), some (.inl a1)], [.inl a1, .inr (.inr (some (12, 0)))], m7)) rfl ?_
      obtain ⟨m9, hv, hres⟩ := mm_b1_some hres
      refine e_call0 (pc := 24) (L := [some (.inr (.inr (some (12, 0)))), some (.inl a1)]) (st := []) (m' := m9) (v := none) rfl (k_X12_readNot RF e0 hRF hB d (by omega) a1 _ _ hv) ?_
      show mm_E (d + 1) 180 (24, [some (.inr (.inr (some (12, 0)))), some (.inl a1)], [], m9) (.inl none, r, 0, 0)
      refine e_steps 2 (s' := (27, [some (.inr (.inr (some (12, 0)))), some (.inl a1)], [.inl 7, .inr (.inr (some (12, 0)))], m9)) rfl ?_
      obtain ⟨m11, hv, hres⟩ := mm_b1_some hres
      refine e_call0 (pc := 30) (L := [some (.inr (.inr (some (12, 0)))), some (.inl a1)]) (st := []) (m' := m11) (v := none) rfl (k_X12_emit d (by omega) 7 _ _ hv) ?_
      show mm_E (d + 1) 180 (30, [some (.inr (.inr (some (12, 0)))), some (.inl a1)], [], m11) (.inl none, r, 0, 0)
      refine e_steps 1 (s' := (5, [some (.inr (.inr (some (12, 0)))), some (.inl a1)], [], m11)) rfl ?_
      obtain rfl := Option.some.inj hres
      exact e_mask (L' := [some (.inr (.inr (some (12, 0)))), some (.inl a1)]) rfl (hcl3 _ rfl)
/-- GlassThreadsModel.readExpression(I)V -/
def f_X12_readExpression : Nat → Int32 → mm_M → Option (mm_M)
  | 0 => fun _ _ => none
  | n + 1 => fun a1 m =>
if (m 12 0 29) = 0 then (mm_let (fun (w1 : Int32) => (if w1 ≠ 0 then (if a1 ≠ 6 then (mm_b1 (f_X12_readAnd (f_X12_readExpression n) a1 m) fun m4 =>
(mm_b1 (mm_loop (σ := mm_M) (ρ := (mm_M)) (fun (m6 : mm_M) => (mm_b1 (f_X12_is 28 m6) fun r7 =>
if r7 = 0 then (some (.inr m6))
else (mm_b1 (f_X12_step m6) fun m9 =>
mm_b1 (f_X12_readAnd (f_X12_readExpression n) a1 m9) fun m11 =>
mm_b1 (f_X12_emit 8 m11) fun m13 =>
some (.inl m13)) : Option ((mm_M) ⊕ ((mm_M))))) mm_fu m4) fun m14 =>
some m14))
else (mm_b1 (f_X12_wrong 2 m) fun m16 =>
mm_b1 (f_X12_readAnd (f_X12_readExpression n) a1 m16) fun m18 =>
(mm_b1 (mm_loop (σ := mm_M) (ρ := (mm_M)) (fun (m20 : mm_M) => (mm_b1 (f_X12_is 28 m20) fun r21 =>
if r21 = 0 then (some (.inr m20))
else (mm_b1 (f_X12_step m20) fun m23 =>
mm_b1 (f_X12_readAnd (f_X12_readExpression n) a1 m23) fun m25 =>
mm_b1 (f_X12_emit 8 m25) fun m27 =>
some (.inl m27)) : Option ((mm_M) ⊕ ((mm_M))))) mm_fu m18) fun m28 =>
some m28)))
else (mm_b1 (f_X12_wrong 1 m) fun m30 =>
mm_b1 (f_X12_readAnd (f_X12_readExpression n) a1 m30) fun m32 =>
(mm_b1 (mm_loop (σ := mm_M) (ρ := (mm_M)) (fun (m34 : mm_M) => (mm_b1 (f_X12_is 28 m34) fun r35 =>
if r35 = 0 then (some (.inr m34))
else (mm_b1 (f_X12_step m34) fun m37 =>
mm_b1 (f_X12_readAnd (f_X12_readExpression n) a1 m37) fun m39 =>
mm_b1 (f_X12_emit 8 m39) fun m41 =>
some (.inl m41)) : Option ((mm_M) ⊕ ((mm_M))))) mm_fu m32) fun m42 =>
some m42)) : Option (mm_M))) fun k2 =>
if (m 12 0 24) = 2 then (k2 1)
else (if (m 12 0 24) = 1 then (k2 1)
else (mm_b1 (f_X12_isSign 40 m) fun r43 =>
if r43 = 0 then (k2 0)
else (k2 1))))
else (some m)
set_option maxHeartbeats 4000000 in
set_option maxRecDepth 100000 in
theorem k_X12_readExpression (n : Nat) : ∀ (d : Nat) (hd : 2 + 6 * n ≤ d) (a1 : Int32) (m : mm_M) (r : mm_M) (hres : f_X12_readExpression n a1 m = some r), mm_X d 181 [.inr (.inr (some (12, 0))), .inl a1] m (.inl none, r, 0, 0) := by
  induction n with
  | zero => intro d hd a1 m r hres; cases hres
  | succ n ih =>
    intro d hd a1 m r hres
    have hRF : ∀ (a1 : Int32) (m : mm_M) (r : mm_M), f_X12_readExpression n a1 m = some r → ∀ d, (2 + 6 * n) ≤ d → mm_X d 181 [.inr (.inr (some (12, 0))), .inl a1] m (.inl none, r, 0, 0) := fun a1 m r h d hd => ih d hd a1 m r h
    obtain ⟨d, rfl⟩ : ∃ e, d = e + 1 := ⟨d - 1, by omega⟩
    show mm_E (d + 1) 181 (0, [some (.inr (.inr (some (12, 0)))), some (.inl a1), none], [], m) (.inl none, r, 0, 0)
    refine e_steps 2 (s' := (4, [some (.inr (.inr (some (12, 0)))), some (.inl a1), none], [.inl (m 12 0 29)], m)) rfl ?_
    refine e_if (s1 := (8, [some (.inr (.inr (some (12, 0)))), some (.inl a1), none], [], m)) (s2 := (7, [some (.inr (.inr (some (12, 0)))), some (.inl a1), none], [], m)) rfl hres (fun hc hres => ?_) (fun hc hres => ?_)
    · refine e_steps 3 (s' := (13, [some (.inr (.inr (some (12, 0)))), some (.inl a1), none], [.inl 2, .inl (m 12 0 24)], m)) rfl ?_
      refine e_join (fun k2 => ∀ (w1 : Int32), k2 w1 = some r → mm_E (d + 1) 181 (38, [some (.inr (.inr (some (12, 0)))), some (.inl a1), none], [.inl w1], m) (.inl none, r, 0, 0)) hres (fun w1 hres => ?_) (fun k2 hk2 hres => ?_)
      · refine e_steps 2 (s' := (40, [some (.inr (.inr (some (12, 0)))), some (.inl a1), some (.inl w1)], [.inl w1], m)) rfl ?_
        refine e_if (s1 := (51, [some (.inr (.inr (some (12, 0)))), some (.inl a1), some (.inl w1)], [], m)) (s2 := (43, [some (.inr (.inr (some (12, 0)))), some (.inl a1), some (.inl w1)], [], m)) rfl hres (fun hc hres => ?_) (fun hc hres => ?_)
        · refine e_steps 2 (s' := (54, [some (.inr (.inr (some (12, 0)))), some (.inl a1), some (.inl w1)], [.inl 6, .inl a1], m)) rfl ?_
          refine e_if (s1 := (62, [some (.inr (.inr (some (12, 0)))), some (.inl a1), some (.inl w1)], [], m)) (s2 := (57, [some (.inr (.inr (some (12, 0)))), some (.inl a1), some (.inl w1)], [], m)) rfl hres (fun hc hres => ?_) (fun hc hres => ?_)
          · refine e_mask (L' := [some (.inr (.inr (some (12, 0)))), some (.inl a1), none]) rfl ?_
            refine e_steps 2 (s' := (64, [some (.inr (.inr (some (12, 0)))), some (.inl a1), none], [.inl a1, .inr (.inr (some (12, 0)))], m)) rfl ?_
            obtain ⟨m4, hv, hres⟩ := mm_b1_some hres
            refine e_call0 (pc := 67) (L := [some (.inr (.inr (some (12, 0)))), some (.inl a1), none]) (st := []) (m' := m4) (v := none) rfl (k_X12_readAnd (f_X12_readExpression n) (2 + 6 * n) hRF (by omega) d (by omega) a1 _ _ hv) ?_
            show mm_E (d + 1) 181 (67, [some (.inr (.inr (some (12, 0)))), some (.inl a1), none], [], m4) (.inl none, r, 0, 0)
            refine e_mask (L' := [some (.inr (.inr (some (12, 0)))), some (.inl a1), none]) rfl ?_
            refine e_loopb (φ := fun s => (67, [some (.inr (.inr (some (12, 0)))), some (.inl a1), none], [], s)) (K := fun t => mm_E (d + 1) 181 (95, [none, none, none], [], t) (.inl none, r, 0, 0)) hres (fun m14 hres => ?_) (fun m6 ol5 hres hcl5 hxl5 => ?_)
            · show mm_E (d + 1) 181 (95, [none, none, none], [], m14) (.inl none, r, 0, 0)
              obtain rfl := Option.some.inj hres
              exact e_ret rfl rfl
            · show mm_E (d + 1) 181 (67, [some (.inr (.inr (some (12, 0)))), some (.inl a1), none], [], m6) (.inl none, r, 0, 0)
              refine e_steps 2 (s' := (71, [some (.inr (.inr (some (12, 0)))), some (.inl a1), none], [.inr (.inr (some (135, 28))), .inr (.inr (some (12, 0)))], m6)) rfl ?_
              obtain ⟨r7, hv, hres⟩ := mm_b1_some hres
              refine e_call0 (pc := 74) (L := [some (.inr (.inr (some (12, 0)))), some (.inl a1), none]) (st := []) (m' := m6) (v := some (.inl r7)) rfl (k_X12_is d (by omega) 28 _ _ hv) ?_
              show mm_E (d + 1) 181 (74, [some (.inr (.inr (some (12, 0)))), some (.inl a1), none], [.inl r7], m6) (.inl none, r, 0, 0)
              refine e_if (s1 := (95, [some (.inr (.inr (some (12, 0)))), some (.inl a1), none], [], m6)) (s2 := (77, [some (.inr (.inr (some (12, 0)))), some (.inl a1), none], [], m6)) rfl hres (fun hc hres => ?_) (fun hc hres => ?_)
              · obtain rfl := Option.some.inj hres
                exact e_mask (L' := [none, none, none]) rfl (hxl5 _ rfl)
              · refine e_steps 1 (s' := (78, [some (.inr (.inr (some (12, 0)))), some (.inl a1), none], [.inr (.inr (some (12, 0)))], m6)) rfl ?_
                obtain ⟨m9, hv, hres⟩ := mm_b1_some hres
                refine e_call0 (pc := 81) (L := [some (.inr (.inr (some (12, 0)))), some (.inl a1), none]) (st := []) (m' := m9) (v := none) rfl (k_X12_step d (by omega)  _ _ hv) ?_
                show mm_E (d + 1) 181 (81, [some (.inr (.inr (some (12, 0)))), some (.inl a1), none], [], m9) (.inl none, r, 0, 0)
                refine e_steps 2 (s' := (83, [some (.inr (.inr (some (12, 0)))), some (.inl a1), none], [.inl a1, .inr (.inr (some (12, 0)))], m9)) rfl ?_
                obtain ⟨m11, hv, hres⟩ := mm_b1_some hres
                refine e_call0 (pc := 86) (L := [some (.inr (.inr (some (12, 0)))), some (.inl a1), none]) (st := []) (m' := m11) (v := none) rfl (k_X12_readAnd (f_X12_readExpression n) (2 + 6 * n) hRF (by omega) d (by omega) a1 _ _ hv) ?_
                show mm_E (d + 1) 181 (86, [some (.inr (.inr (some (12, 0)))), some (.inl a1), none], [], m11) (.inl none, r, 0, 0)
                refine e_steps 2 (s' := (89, [some (.inr (.inr (some (12, 0)))), some (.inl a1), none], [.inl 8, .inr (.inr (some (12, 0)))], m11)) rfl ?_
                obtain ⟨m13, hv, hres⟩ := mm_b1_some hres
                refine e_call0 (pc := 92) (L := [some (.inr (.inr (some (12, 0)))), some (.inl a1), none]) (st := []) (m' := m13) (v := none) rfl (k_X12_emit d (by omega) 8 _ _ hv) ?_
                show mm_E (d + 1) 181 (92, [some (.inr (.inr (some (12, 0)))), some (.inl a1), none], [], m13) (.inl none, r, 0, 0)
                refine e_steps 1 (s' := (67, [some (.inr (.inr (some (12, 0)))), some (.inl a1), none], [], m13)) rfl ?_
                obtain rfl := Option.some.inj hres
                exact e_mask (L' := [some (.inr (.inr (some (12, 0)))), some (.inl a1), none]) rfl (hcl5 _ rfl)
          · refine e_steps 2 (s' := (59, [some (.inr (.inr (some (12, 0)))), some (.inl a1), some (.inl w1)], [.inl 2, .inr (.inr (some (12, 0)))], m)) rfl ?_
            obtain ⟨m16, hv, hres⟩ := mm_b1_some hres
            refine e_call0 (pc := 62) (L := [some (.inr (.inr (some (12, 0)))), some (.inl a1), some (.inl w1)]) (st := []) (m' := m16) (v := none) rfl (k_X12_wrong d (by omega) 2 _ _ hv) ?_
            show mm_E (d + 1) 181 (62, [some (.inr (.inr (some (12, 0)))), some (.inl a1), some (.inl w1)], [], m16) (.inl none, r, 0, 0)
            refine e_mask (L' := [some (.inr (.inr (some (12, 0)))), some (.inl a1), none]) rfl ?_
            refine e_steps 2 (s' := (64, [some (.inr (.inr (some (12, 0)))), some (.inl a1), none], [.inl a1, .inr (.inr (some (12, 0)))], m16)) rfl ?_
            obtain ⟨m18, hv, hres⟩ := mm_b1_some hres
            refine e_call0 (pc := 67) (L := [some (.inr (.inr (some (12, 0)))), some (.inl a1), none]) (st := []) (m' := m18) (v := none) rfl (k_X12_readAnd (f_X12_readExpression n) (2 + 6 * n) hRF (by omega) d (by omega) a1 _ _ hv) ?_
            show mm_E (d + 1) 181 (67, [some (.inr (.inr (some (12, 0)))), some (.inl a1), none], [], m18) (.inl none, r, 0, 0)
            refine e_mask (L' := [some (.inr (.inr (some (12, 0)))), some (.inl a1), none]) rfl ?_
            refine e_loopb (φ := fun s => (67, [some (.inr (.inr (some (12, 0)))), some (.inl a1), none], [], s)) (K := fun t => mm_E (d + 1) 181 (95, [none, none, none], [], t) (.inl none, r, 0, 0)) hres (fun m28 hres => ?_) (fun m20 ol19 hres hcl19 hxl19 => ?_)
            · show mm_E (d + 1) 181 (95, [none, none, none], [], m28) (.inl none, r, 0, 0)
              obtain rfl := Option.some.inj hres
              exact e_ret rfl rfl
            · show mm_E (d + 1) 181 (67, [some (.inr (.inr (some (12, 0)))), some (.inl a1), none], [], m20) (.inl none, r, 0, 0)
              refine e_steps 2 (s' := (71, [some (.inr (.inr (some (12, 0)))), some (.inl a1), none], [.inr (.inr (some (135, 28))), .inr (.inr (some (12, 0)))], m20)) rfl ?_
              obtain ⟨r21, hv, hres⟩ := mm_b1_some hres
              refine e_call0 (pc := 74) (L := [some (.inr (.inr (some (12, 0)))), some (.inl a1), none]) (st := []) (m' := m20) (v := some (.inl r21)) rfl (k_X12_is d (by omega) 28 _ _ hv) ?_
              show mm_E (d + 1) 181 (74, [some (.inr (.inr (some (12, 0)))), some (.inl a1), none], [.inl r21], m20) (.inl none, r, 0, 0)
              refine e_if (s1 := (95, [some (.inr (.inr (some (12, 0)))), some (.inl a1), none], [], m20)) (s2 := (77, [some (.inr (.inr (some (12, 0)))), some (.inl a1), none], [], m20)) rfl hres (fun hc hres => ?_) (fun hc hres => ?_)
              · obtain rfl := Option.some.inj hres
                exact e_mask (L' := [none, none, none]) rfl (hxl19 _ rfl)
              · refine e_steps 1 (s' := (78, [some (.inr (.inr (some (12, 0)))), some (.inl a1), none], [.inr (.inr (some (12, 0)))], m20)) rfl ?_
                obtain ⟨m23, hv, hres⟩ := mm_b1_some hres
                refine e_call0 (pc := 81) (L := [some (.inr (.inr (some (12, 0)))), some (.inl a1), none]) (st := []) (m' := m23) (v := none) rfl (k_X12_step d (by omega)  _ _ hv) ?_
                show mm_E (d + 1) 181 (81, [some (.inr (.inr (some (12, 0)))), some (.inl a1), none], [], m23) (.inl none, r, 0, 0)
                refine e_steps 2 (s' := (83, [some (.inr (.inr (some (12, 0)))), some (.inl a1), none], [.inl a1, .inr (.inr (some (12, 0)))], m23)) rfl ?_
                obtain ⟨m25, hv, hres⟩ := mm_b1_some hres
                refine e_call0 (pc := 86) (L := [some (.inr (.inr (some (12, 0)))), some (.inl a1), none]) (st := []) (m' := m25) (v := none) rfl (k_X12_readAnd (f_X12_readExpression n) (2 + 6 * n) hRF (by omega) d (by omega) a1 _ _ hv) ?_
                show mm_E (d + 1) 181 (86, [some (.inr (.inr (some (12, 0)))), some (.inl a1), none], [], m25) (.inl none, r, 0, 0)
                refine e_steps 2 (s' := (89, [some (.inr (.inr (some (12, 0)))), some (.inl a1), none], [.inl 8, .inr (.inr (some (12, 0)))], m25)) rfl ?_
                obtain ⟨m27, hv, hres⟩ := mm_b1_some hres
                refine e_call0 (pc := 92) (L := [some (.inr (.inr (some (12, 0)))), some (.inl a1), none]) (st := []) (m' := m27) (v := none) rfl (k_X12_emit d (by omega) 8 _ _ hv) ?_
                show mm_E (d + 1) 181 (92, [some (.inr (.inr (some (12, 0)))), some (.inl a1), none], [], m27) (.inl none, r, 0, 0)
                refine e_steps 1 (s' := (67, [some (.inr (.inr (some (12, 0)))), some (.inl a1), none], [], m27)) rfl ?_
                obtain rfl := Option.some.inj hres
                exact e_mask (L' := [some (.inr (.inr (some (12, 0)))), some (.inl a1), none]) rfl (hcl19 _ rfl)
        · refine e_steps 2 (s' := (45, [some (.inr (.inr (some (12, 0)))), some (.inl a1), some (.inl w1)], [.inl 1, .inr (.inr (some (12, 0)))], m)) rfl ?_
          obtain ⟨m30, hv, hres⟩ := mm_b1_some hres
          refine e_call0 (pc := 48) (L := [some (.inr (.inr (some (12, 0)))), some (.inl a1), some (.inl w1)]) (st := []) (m' := m30) (v := none) rfl (k_X12_wrong d (by omega) 1 _ _ hv) ?_
          show mm_E (d + 1) 181 (48, [some (.inr (.inr (some (12, 0)))), some (.inl a1), some (.inl w1)], [], m30) (.inl none, r, 0, 0)
          refine e_steps 1 (s' := (62, [some (.inr (.inr (some (12, 0)))), some (.inl a1), some (.inl w1)], [], m30)) rfl ?_
          refine e_mask (L' := [some (.inr (.inr (some (12, 0)))), some (.inl a1), none]) rfl ?_
          refine e_steps 2 (s' := (64, [some (.inr (.inr (some (12, 0)))), some (.inl a1), none], [.inl a1, .inr (.inr (some (12, 0)))], m30)) rfl ?_
          obtain ⟨m32, hv, hres⟩ := mm_b1_some hres
          refine e_call0 (pc := 67) (L := [some (.inr (.inr (some (12, 0)))), some (.inl a1), none]) (st := []) (m' := m32) (v := none) rfl (k_X12_readAnd (f_X12_readExpression n) (2 + 6 * n) hRF (by omega) d (by omega) a1 _ _ hv) ?_
          show mm_E (d + 1) 181 (67, [some (.inr (.inr (some (12, 0)))), some (.inl a1), none], [], m32) (.inl none, r, 0, 0)
          refine e_mask (L' := [some (.inr (.inr (some (12, 0)))), some (.inl a1), none]) rfl ?_
          refine e_loopb (φ := fun s => (67, [some (.inr (.inr (some (12, 0)))), some (.inl a1), none], [], s)) (K := fun t => mm_E (d + 1) 181 (95, [none, none, none], [], t) (.inl none, r, 0, 0)) hres (fun m42 hres => ?_) (fun m34 ol33 hres hcl33 hxl33 => ?_)
          · show mm_E (d + 1) 181 (95, [none, none, none], [], m42) (.inl none, r, 0, 0)
            obtain rfl := Option.some.inj hres
            exact e_ret rfl rfl
          · show mm_E (d + 1) 181 (67, [some (.inr (.inr (some (12, 0)))), some (.inl a1), none], [], m34) (.inl none, r, 0, 0)
            refine e_steps 2 (s' := (71, [some (.inr (.inr (some (12, 0)))), some (.inl a1), none], [.inr (.inr (some (135, 28))), .inr (.inr (some (12, 0)))], m34)) rfl ?_
            obtain ⟨r35, hv, hres⟩ := mm_b1_some hres
            refine e_call0 (pc := 74) (L := [some (.inr (.inr (some (12, 0)))), some (.inl a1), none]) (st := []) (m' := m34) (v := some (.inl r35)) rfl (k_X12_is d (by omega) 28 _ _ hv) ?_
            show mm_E (d + 1) 181 (74, [some (.inr (.inr (some (12, 0)))), some (.inl a1), none], [.inl r35], m34) (.inl none, r, 0, 0)
            refine e_if (s1 := (95, [some (.inr (.inr (some (12, 0)))), some (.inl a1), none], [], m34)) (s2 := (77, [some (.inr (.inr (some (12, 0)))), some (.inl a1), none], [], m34)) rfl hres (fun hc hres => ?_) (fun hc hres => ?_)
            · obtain rfl := Option.some.inj hres
              exact e_mask (L' := [none, none, none]) rfl (hxl33 _ rfl)
            · refine e_steps 1 (s' := (78, [some (.inr (.inr (some (12, 0)))), some (.inl a1), none], [.inr (.inr (some (12, 0)))], m34)) rfl ?_
              obtain ⟨m37, hv, hres⟩ := mm_b1_some hres
              refine e_call0 (pc := 81) (L := [some (.inr (.inr (some (12, 0)))), some (.inl a1), none]) (st := []) (m' := m37) (v := none) rfl (k_X12_step d (by omega)  _ _ hv) ?_
              show mm_E (d + 1) 181 (81, [some (.inr (.inr (some (12, 0)))), some (.inl a1), none], [], m37) (.inl none, r, 0, 0)
              refine e_steps 2 (s' := (83, [some (.inr (.inr (some (12, 0)))), some (.inl a1), none], [.inl a1, .inr (.inr (some (12, 0)))], m37)) rfl ?_
              obtain ⟨m39, hv, hres⟩ := mm_b1_some hres
              refine e_call0 (pc := 86) (L := [some (.inr (.inr (some (12, 0)))), some (.inl a1), none]) (st := []) (m' := m39) (v := none) rfl (k_X12_readAnd (f_X12_readExpression n) (2 + 6 * n) hRF (by omega) d (by omega) a1 _ _ hv) ?_
              show mm_E (d + 1) 181 (86, [some (.inr (.inr (some (12, 0)))), some (.inl a1), none], [], m39) (.inl none, r, 0, 0)
              refine e_steps 2 (s' := (89, [some (.inr (.inr (some (12, 0)))), some (.inl a1), none], [.inl 8, .inr (.inr (some (12, 0)))], m39)) rfl ?_
              obtain ⟨m41, hv, hres⟩ := mm_b1_some hres
              refine e_call0 (pc := 92) (L := [some (.inr (.inr (some (12, 0)))), some (.inl a1), none]) (st := []) (m' := m41) (v := none) rfl (k_X12_emit d (by omega) 8 _ _ hv) ?_
              show mm_E (d + 1) 181 (92, [some (.inr (.inr (some (12, 0)))), some (.inl a1), none], [], m41) (.inl none, r, 0, 0)
              refine e_steps 1 (s' := (67, [some (.inr (.inr (some (12, 0)))), some (.inl a1), none], [], m41)) rfl ?_
              obtain rfl := Option.some.inj hres
              exact e_mask (L' := [some (.inr (.inr (some (12, 0)))), some (.inl a1), none]) rfl (hcl33 _ rfl)
      · refine e_if (s1 := (33, [some (.inr (.inr (some (12, 0)))), some (.inl a1), none], [], m)) (s2 := (16, [some (.inr (.inr (some (12, 0)))), some (.inl a1), none], [], m)) rfl hres (fun hc hres => ?_) (fun hc hres => ?_)
        · refine e_steps 2 (s' := (38, [some (.inr (.inr (some (12, 0)))), some (.inl a1), none], [.inl 1], m)) rfl ?_
          exact e_mask (L' := [some (.inr (.inr (some (12, 0)))), some (.inl a1), none]) rfl (hk2 _ hres)
        · refine e_steps 3 (s' := (21, [some (.inr (.inr (some (12, 0)))), some (.inl a1), none], [.inl 1, .inl (m 12 0 24)], m)) rfl ?_
          refine e_if (s1 := (33, [some (.inr (.inr (some (12, 0)))), some (.inl a1), none], [], m)) (s2 := (24, [some (.inr (.inr (some (12, 0)))), some (.inl a1), none], [], m)) rfl hres (fun hc hres => ?_) (fun hc hres => ?_)
          · refine e_steps 2 (s' := (38, [some (.inr (.inr (some (12, 0)))), some (.inl a1), none], [.inl 1], m)) rfl ?_
            exact e_mask (L' := [some (.inr (.inr (some (12, 0)))), some (.inl a1), none]) rfl (hk2 _ hres)
          · refine e_steps 2 (s' := (27, [some (.inr (.inr (some (12, 0)))), some (.inl a1), none], [.inl 40, .inr (.inr (some (12, 0)))], m)) rfl ?_
            obtain ⟨r43, hv, hres⟩ := mm_b1_some hres
            refine e_call0 (pc := 30) (L := [some (.inr (.inr (some (12, 0)))), some (.inl a1), none]) (st := []) (m' := m) (v := some (.inl r43)) rfl (k_X12_isSign d (by omega) 40 _ _ hv) ?_
            show mm_E (d + 1) 181 (30, [some (.inr (.inr (some (12, 0)))), some (.inl a1), none], [.inl r43], m) (.inl none, r, 0, 0)
            refine e_if (s1 := (37, [some (.inr (.inr (some (12, 0)))), some (.inl a1), none], [], m)) (s2 := (33, [some (.inr (.inr (some (12, 0)))), some (.inl a1), none], [], m)) rfl hres (fun hc hres => ?_) (fun hc hres => ?_)
            · refine e_steps 1 (s' := (38, [some (.inr (.inr (some (12, 0)))), some (.inl a1), none], [.inl 0], m)) rfl ?_
              exact e_mask (L' := [some (.inr (.inr (some (12, 0)))), some (.inl a1), none]) rfl (hk2 _ hres)
            · refine e_steps 2 (s' := (38, [some (.inr (.inr (some (12, 0)))), some (.inl a1), none], [.inl 1], m)) rfl ?_
              exact e_mask (L' := [some (.inr (.inr (some (12, 0)))), some (.inl a1), none]) rfl (hk2 _ hres)
    · obtain rfl := Option.some.inj hres
      exact e_ret rfl rfl
/-- GlassThreadsModel.which([Ljava/lang/String;)I -/
def f_X12_which_g66  (m : mm_M) : Option (Int32) :=
(mm_b1 (mm_loop (σ := Int32) (ρ := (Int32) ⊕ (Unit)) (fun (v2 : Int32) => (if (Int32.ofNat 4) ≤ v2 then (some (.inr (.inr ())))
else (if mm_in v2 4 then (
mm_let (9 + v2.toNatClampNeg) fun i3 =>
mm_b1 (f_X12_is i3 m) fun r4 =>
if r4 = 0 then (mm_let (v2 + 1) fun v5 =>
some (.inl v5))
else (some (.inr (.inl v2)))) else none) : Option ((Int32) ⊕ ((Int32) ⊕ (Unit))))) mm_fu 0) fun t => match t with
| .inl v6 => some v6
| .inr _ => some (-1))
set_option maxHeartbeats 4000000 in
set_option maxRecDepth 100000 in
theorem k_X12_which_g66 (d : Nat) (hd : 1 ≤ d)  (m : mm_M) (r : Int32) (hres : f_X12_which_g66  m = some r) : mm_X d 170 [.inr (.inr (some (12, 0))), .inr (.inr (some (66, 0)))] m (.inl (some (.inl r)), m, 0, 0) := by
  unfold f_X12_which_g66 at hres
  obtain ⟨d, rfl⟩ : ∃ e, d = e + 1 := ⟨d - 1, by omega⟩
  show mm_E (d + 1) 170 (0, [some (.inr (.inr (some (12, 0)))), some (.inr (.inr (some (66, 0)))), none], [], m) (.inl (some (.inl r)), m, 0, 0)
  refine e_steps 2 (s' := (2, [some (.inr (.inr (some (12, 0)))), some (.inr (.inr (some (66, 0)))), some (.inl 0)], [], m)) rfl ?_
  refine e_mask (L' := [some (.inr (.inr (some (12, 0)))), some (.inr (.inr (some (66, 0)))), some (.inl 0)]) rfl ?_
  refine e_loopb (φ := fun s => (2, [some (.inr (.inr (some (12, 0)))), some (.inr (.inr (some (66, 0)))), some (.inl s)], [], m)) (K := fun t => match t with | .inl t => mm_E (d + 1) 170 (18, [none, none, some (.inl t)], [], m) (.inl (some (.inl r)), m, 0, 0) | .inr t => mm_E (d + 1) 170 (26, [none, none, none], [], m) (.inl (some (.inl r)), m, 0, 0)) hres (fun t hres => ?_) (fun v2 ol1 hres hcl1 hxl1 => ?_)
  · rcases t with v6 | _
    · show mm_E (d + 1) 170 (18, [none, none, some (.inl v6)], [], m) (.inl (some (.inl r)), m, 0, 0)
      refine e_steps 1 (s' := (19, [none, none, some (.inl v6)], [.inl v6], m)) rfl ?_
      obtain rfl := Option.some.inj hres
      exact e_ret rfl rfl
    · show mm_E (d + 1) 170 (26, [none, none, none], [], m) (.inl (some (.inl r)), m, 0, 0)
      refine e_steps 1 (s' := (27, [none, none, none], [.inl (-1)], m)) rfl ?_
      obtain rfl := Option.some.inj hres
      exact e_ret rfl rfl
  · show mm_E (d + 1) 170 (2, [some (.inr (.inr (some (12, 0)))), some (.inr (.inr (some (66, 0)))), some (.inl v2)], [], m) (.inl (some (.inl r)), m, 0, 0)
    refine e_steps 3 (s' := (5, [some (.inr (.inr (some (12, 0)))), some (.inr (.inr (some (66, 0)))), some (.inl v2)], [.inl (Int32.ofNat 4), .inl v2], m)) rfl ?_
    refine e_if (s1 := (26, [some (.inr (.inr (some (12, 0)))), some (.inr (.inr (some (66, 0)))), some (.inl v2)], [], m)) (s2 := (8, [some (.inr (.inr (some (12, 0)))), some (.inr (.inr (some (66, 0)))), some (.inl v2)], [], m)) rfl hres (fun hc hres => ?_) (fun hc hres => ?_)
    · obtain rfl := Option.some.inj hres
      exact e_mask (L' := [none, none, none]) rfl (hxl1 _ rfl)
    · refine e_steps 3 (s' := (11, [some (.inr (.inr (some (12, 0)))), some (.inr (.inr (some (66, 0)))), some (.inl v2)], [.inl v2, .inr (.inr (some (66, 0))), .inr (.inr (some (12, 0)))], m)) rfl ?_
      refine e_gd (s1 := (12, [some (.inr (.inr (some (12, 0)))), some (.inr (.inr (some (66, 0)))), some (.inl v2)], [.inr (.inr (some (135, (9 + v2.toNatClampNeg)))), .inr (.inr (some (12, 0)))], m)) rfl hres (fun hc hres => ?_)
      refine e_let (fun (i3 : Nat) => (12, [some (.inr (.inr (some (12, 0)))), some (.inr (.inr (some (66, 0)))), some (.inl v2)], [.inr (.inr (some (135, i3))), .inr (.inr (some (12, 0)))], m)) hres (fun i3 hres => ?_)
      obtain ⟨r4, hv, hres⟩ := mm_b1_some hres
      refine e_call0 (pc := 15) (L := [some (.inr (.inr (some (12, 0)))), some (.inr (.inr (some (66, 0)))), some (.inl v2)]) (st := []) (m' := m) (v := some (.inl r4)) rfl (k_X12_is d (by omega) i3 _ _ hv) ?_
      show mm_E (d + 1) 170 (15, [some (.inr (.inr (some (12, 0)))), some (.inr (.inr (some (66, 0)))), some (.inl v2)], [.inl r4], m) (.inl (some (.inl r)), m, 0, 0)
      refine e_if (s1 := (20, [some (.inr (.inr (some (12, 0)))), some (.inr (.inr (some (66, 0)))), some (.inl v2)], [], m)) (s2 := (18, [some (.inr (.inr (some (12, 0)))), some (.inr (.inr (some (66, 0)))), some (.inl v2)], [], m)) rfl hres (fun hc hres => ?_) (fun hc hres => ?_)
      · refine e_steps 1 (s' := (23, [some (.inr (.inr (some (12, 0)))), some (.inr (.inr (some (66, 0)))), some (.inl (v2 + 1))], [], m)) rfl ?_
        refine e_let (fun (v5 : Int32) => (23, [some (.inr (.inr (some (12, 0)))), some (.inr (.inr (some (66, 0)))), some (.inl v5)], [], m)) hres (fun v5 hres => ?_)
        refine e_steps 1 (s' := (2, [some (.inr (.inr (some (12, 0)))), some (.inr (.inr (some (66, 0)))), some (.inl v5)], [], m)) rfl ?_
        obtain rfl := Option.some.inj hres
        exact e_mask (L' := [some (.inr (.inr (some (12, 0)))), some (.inr (.inr (some (66, 0)))), some (.inl v5)]) rfl (hcl1 _ rfl)
      · obtain rfl := Option.some.inj hres
        exact e_mask (L' := [none, none, some (.inl v2)]) rfl (hxl1 _ rfl)
/-- GlassThreadsModel.law(I)I -/
def f_X12_law (a1 : Int32) (m : mm_M) : Option (Int32 × mm_M) :=
mm_let (mm_w m 12 0 3 0) fun m1 =>
if a1 < 0 then (mm_b2 (f_X12_fail 1 m1) fun r2 m3 =>
some (r2, m3))
else (if a1 ≤ (m1 12 0 21) then (mm_b1 (f_X12_begin a1 m1) fun m5 =>
mm_let (mm_w m5 12 0 32 0) fun m6 =>
(mm_b1 (mm_loop (σ := Int32 × mm_M) (ρ := (mm_M)) (fun (s : Int32 × mm_M) => match s with
| (v8, m9) => (if 4 ≤ v8 then (some (.inr m9))
else (if mm_in (4 + v8) 8 then (
mm_let (mm_w m9 86 0 ((4 + v8).toNatClampNeg) 0) fun m10 =>
mm_let (v8 + 1) fun v11 =>
some (.inl (v11, m10))) else none) : Option ((Int32 × mm_M) ⊕ ((mm_M))))) mm_fu (0, m6)) fun m12 =>
(mm_b1 (mm_loop (σ := Int32 × mm_M) (ρ := (mm_M)) (fun (s : Int32 × mm_M) => match s with
| (v14, m15) => (if (m15 12 0 29) ≠ 0 then (some (.inr m15))
else (if (m15 12 0 24) = 0 then (some (.inr m15))
else (mm_b1 (f_X12_which_g66 m15) fun r16 =>
mm_let (fun (m17 : mm_M) => (if (m17 12 0 29) = 0 then (mm_let (v14 + 1) fun v19 =>
mm_b1 (f_X12_step m17) fun m21 =>
if mm_in (4 + r16) 8 then (
mm_let (mm_w m21 81 0 ((4 + r16).toNatClampNeg) (m21 12 0 32)) fun m22 =>
mm_b1 (f_X12_readExpression 16 0 m22) fun m24 =>
if mm_in (4 + r16) 8 then (
mm_let (mm_w m24 82 0 ((4 + r16).toNatClampNeg) (m24 12 0 32)) fun m25 =>
if mm_in (4 + r16) 8 then (
mm_let (mm_w m25 86 0 ((4 + r16).toNatClampNeg) 1) fun m26 =>
mm_b1 (f_X12_need 59 m26) fun m28 =>
some (.inl (v19, m28))) else none) else none) else none)
else (some (.inl (v14, m17))) : Option ((Int32 × mm_M) ⊕ ((mm_M))))) fun k18 =>
if r16 ≠ (-1) then (if v14 ≠ 16 then (k18 m15)
else (mm_b1 (f_X12_wrong 2 m15) fun m30 =>
k18 m30))
else (mm_b1 (f_X12_wrong 1 m15) fun m32 =>
k18 m32))) : Option ((Int32 × mm_M) ⊕ ((mm_M))))) mm_fu (0, m12)) fun m33 =>
if (m33 12 0 29) = 0 then ((mm_b1 (mm_loop (σ := Int32 × mm_M) (ρ := (mm_M)) (fun (s : Int32 × mm_M) => match s with
| (v35, m36) => (if 4 ≤ v35 then (some (.inr m36))
else (if mm_in (4 + v35) 8 then (
if mm_in v35 8 then (
mm_let (mm_w m36 81 0 v35.toNatClampNeg (m36 81 0 (4 + v35).toNatClampNeg)) fun m37 =>
if mm_in (4 + v35) 8 then (
if mm_in v35 8 then (
mm_let (mm_w m37 82 0 v35.toNatClampNeg (m37 82 0 (4 + v35).toNatClampNeg)) fun m38 =>
if mm_in (4 + v35) 8 then (
if mm_in v35 8 then (if (m38 86 0 (4 + v35).toNatClampNeg) = 0 ∨ (m38 86 0 (4 + v35).toNatClampNeg) = 1 then (
mm_let (mm_w m38 86 0 v35.toNatClampNeg (m38 86 0 (4 + v35).toNatClampNeg)) fun m39 =>
mm_let (v35 + 1) fun v40 =>
some (.inl (v40, m39))) else none) else none) else none) else none) else none) else none) else none) : Option ((Int32 × mm_M) ⊕ ((mm_M))))) mm_fu (0, m33)) fun m41 =>
(mm_b1 (mm_loop (σ := Int32 × mm_M) (ρ := (mm_M)) (fun (s : Int32 × mm_M) => match s with
| (v43, m44) => (if (m44 12 0 32) ≤ v43 then (some (.inr m44))
else (if mm_in (800 + v43) 1600 then (
if mm_in v43 1600 then (
mm_let (mm_w m44 83 0 v43.toNatClampNeg (m44 83 0 (800 + v43).toNatClampNeg)) fun m45 =>
mm_let (v43 + 1) fun v46 =>
some (.inl (v46, m45))) else none) else none) : Option ((Int32 × mm_M) ⊕ ((mm_M))))) mm_fu (0, m41)) fun m47 =>
some (0, m47))))
else (mm_let (mm_w m33 12 0 31 (m33 12 0 30)) fun m48 =>
some ((m48 12 0 29), m48)))))
else (mm_b2 (f_X12_fail 1 m1) fun r49 m50 =>
some (r49, m50)))
set_option maxHeartbeats 4000000 in
set_option maxRecDepth 100000 in
theorem k_X12_law (d : Nat) (hd : 99 ≤ d) (a1 : Int32) (m : mm_M) (r : Int32 × mm_M) (hres : f_X12_law a1 m = some r) : mm_X d 182 [.inr (.inr (some (12, 0))), .inl a1] m (.inl (some (.inl r.1)), r.2, 0, 0) := by
  unfold f_X12_law at hres
  obtain ⟨d, rfl⟩ : ∃ e, d = e + 1 := ⟨d - 1, by omega⟩
  show mm_E (d + 1) 182 (0, [some (.inr (.inr (some (12, 0)))), some (.inl a1), none, none], [], m) (.inl (some (.inl r.1)), r.2, 0, 0)
  refine e_steps 3 (s' := (5, [some (.inr (.inr (some (12, 0)))), some (.inl a1), none, none], [], (mm_w m 12 0 3 0))) rfl ?_
  refine e_let (fun (m1 : mm_M) => (5, [some (.inr (.inr (some (12, 0)))), some (.inl a1), none, none], [], m1)) hres (fun m1 hres => ?_)
  refine e_steps 1 (s' := (6, [some (.inr (.inr (some (12, 0)))), some (.inl a1), none, none], [.inl a1], m1)) rfl ?_
  refine e_if (s1 := (17, [some (.inr (.inr (some (12, 0)))), some (.inl a1), none, none], [], m1)) (s2 := (9, [some (.inr (.inr (some (12, 0)))), some (.inl a1), none, none], [], m1)) rfl hres (fun hc hres => ?_) (fun hc hres => ?_)
  · refine e_mask (L' := [some (.inr (.inr (some (12, 0)))), none, none, none]) rfl ?_
    refine e_steps 2 (s' := (19, [some (.inr (.inr (some (12, 0)))), none, none, none], [.inl 1, .inr (.inr (some (12, 0)))], m1)) rfl ?_
    obtain ⟨r2, m3, hv, hres⟩ := mm_b2_some hres
    refine e_call0 (pc := 22) (L := [some (.inr (.inr (some (12, 0)))), none, none, none]) (st := []) (m' := m3) (v := some (.inl r2)) rfl (k_X12_fail d (by omega) 1 _ _ hv) ?_
    show mm_E (d + 1) 182 (22, [some (.inr (.inr (some (12, 0)))), none, none, none], [.inl r2], m3) (.inl (some (.inl r.1)), r.2, 0, 0)
    obtain rfl := Option.some.inj hres
    exact e_ret rfl rfl
  · refine e_steps 3 (s' := (14, [some (.inr (.inr (some (12, 0)))), some (.inl a1), none, none], [.inl (m1 12 0 21), .inl a1], m1)) rfl ?_
    refine e_if (s1 := (23, [some (.inr (.inr (some (12, 0)))), some (.inl a1), none, none], [], m1)) (s2 := (17, [some (.inr (.inr (some (12, 0)))), some (.inl a1), none, none], [], m1)) rfl hres (fun hc hres => ?_) (fun hc hres => ?_)
    · refine e_steps 2 (s' := (25, [some (.inr (.inr (some (12, 0)))), some (.inl a1), none, none], [.inl a1, .inr (.inr (some (12, 0)))], m1)) rfl ?_
      obtain ⟨m5, hv, hres⟩ := mm_b1_some hres
      refine e_call0 (pc := 28) (L := [some (.inr (.inr (some (12, 0)))), some (.inl a1), none, none]) (st := []) (m' := m5) (v := none) rfl (k_X12_begin d (by omega) a1 _ _ hv) ?_
      show mm_E (d + 1) 182 (28, [some (.inr (.inr (some (12, 0)))), some (.inl a1), none, none], [], m5) (.inl (some (.inl r.1)), r.2, 0, 0)
      refine e_steps 3 (s' := (33, [some (.inr (.inr (some (12, 0)))), some (.inl a1), none, none], [], (mm_w m5 12 0 32 0))) rfl ?_
      refine e_let (fun (m6 : mm_M) => (33, [some (.inr (.inr (some (12, 0)))), some (.inl a1), none, none], [], m6)) hres (fun m6 hres => ?_)
      refine e_steps 2 (s' := (35, [some (.inr (.inr (some (12, 0)))), some (.inl a1), some (.inl 0), none], [], m6)) rfl ?_
      refine e_mask (L' := [some (.inr (.inr (some (12, 0)))), none, some (.inl 0), none]) rfl ?_
      refine e_loopb (φ := fun s => (35, [some (.inr (.inr (some (12, 0)))), none, some (.inl s.1), none], [], s.2)) (K := fun t => mm_E (d + 1) 182 (55, [some (.inr (.inr (some (12, 0)))), none, none, none], [], t) (.inl (some (.inl r.1)), r.2, 0, 0)) hres (fun m12 hres => ?_) (fun s ol7 hres hcl7 hxl7 => ?_)
      · show mm_E (d + 1) 182 (55, [some (.inr (.inr (some (12, 0)))), none, none, none], [], m12) (.inl (some (.inl r.1)), r.2, 0, 0)
        refine e_steps 2 (s' := (57, [some (.inr (.inr (some (12, 0)))), none, some (.inl 0), none], [], m12)) rfl ?_
        refine e_mask (L' := [some (.inr (.inr (some (12, 0)))), none, some (.inl 0), none]) rfl ?_
        refine e_loopb (φ := fun s => (57, [some (.inr (.inr (some (12, 0)))), none, some (.inl s.1), none], [], s.2)) (K := fun t => mm_E (d + 1) 182 (168, [some (.inr (.inr (some (12, 0)))), none, none, none], [], t) (.inl (some (.inl r.1)), r.2, 0, 0)) hres (fun m33 hres => ?_) (fun s ol13 hres hcl13 hxl13 => ?_)
        · show mm_E (d + 1) 182 (168, [some (.inr (.inr (some (12, 0)))), none, none, none], [], m33) (.inl (some (.inl r.1)), r.2, 0, 0)
          refine e_steps 2 (s' := (172, [some (.inr (.inr (some (12, 0)))), none, none, none], [.inl (m33 12 0 29)], m33)) rfl ?_
          refine e_if (s1 := (188, [some (.inr (.inr (some (12, 0)))), none, none, none], [], m33)) (s2 := (175, [some (.inr (.inr (some (12, 0)))), none, none, none], [], m33)) rfl hres (fun hc hres => ?_) (fun hc hres => ?_)
          · refine e_steps 2 (s' := (190, [some (.inr (.inr (some (12, 0)))), none, none, some (.inl 0)], [], m33)) rfl ?_
            refine e_mask (L' := [some (.inr (.inr (some (12, 0)))), none, none, some (.inl 0)]) rfl ?_
            refine e_loopb (φ := fun s => (190, [some (.inr (.inr (some (12, 0)))), none, none, some (.inl s.1)], [], s.2)) (K := fun t => mm_E (d + 1) 182 (243, [some (.inr (.inr (some (12, 0)))), none, none, none], [], t) (.inl (some (.inl r.1)), r.2, 0, 0)) hres (fun m41 hres => ?_) (fun s ol34 hres hcl34 hxl34 => ?_)
            · show mm_E (d + 1) 182 (243, [some (.inr (.inr (some (12, 0)))), none, none, none], [], m41) (.inl (some (.inl r.1)), r.2, 0, 0)
              refine e_steps 2 (s' := (245, [some (.inr (.inr (some (12, 0)))), none, none, some (.inl 0)], [], m41)) rfl ?_
              refine e_mask (L' := [some (.inr (.inr (some (12, 0)))), none, none, some (.inl 0)]) rfl ?_
              refine e_loopb (φ := fun s => (245, [some (.inr (.inr (some (12, 0)))), none, none, some (.inl s.1)], [], s.2)) (K := fun t => mm_E (d + 1) 182 (275, [none, none, none, none], [], t) (.inl (some (.inl r.1)), r.2, 0, 0)) hres (fun m47 hres => ?_) (fun s ol42 hres hcl42 hxl42 => ?_)
              · show mm_E (d + 1) 182 (275, [none, none, none, none], [], m47) (.inl (some (.inl r.1)), r.2, 0, 0)
                refine e_steps 1 (s' := (276, [none, none, none, none], [.inl 0], m47)) rfl ?_
                obtain rfl := Option.some.inj hres
                exact e_ret rfl rfl
              · obtain ⟨v43, m44⟩ := s
                show mm_E (d + 1) 182 (245, [some (.inr (.inr (some (12, 0)))), none, none, some (.inl v43)], [], m44) (.inl (some (.inl r.1)), r.2, 0, 0)
                refine e_steps 3 (s' := (250, [some (.inr (.inr (some (12, 0)))), none, none, some (.inl v43)], [.inl (m44 12 0 32), .inl v43], m44)) rfl ?_
                refine e_if (s1 := (275, [some (.inr (.inr (some (12, 0)))), none, none, some (.inl v43)], [], m44)) (s2 := (253, [some (.inr (.inr (some (12, 0)))), none, none, some (.inl v43)], [], m44)) rfl hres (fun hc hres => ?_) (fun hc hres => ?_)
                · obtain rfl := Option.some.inj hres
                  exact e_mask (L' := [none, none, none, none]) rfl (hxl42 _ rfl)
                · refine e_steps 8 (s' := (267, [some (.inr (.inr (some (12, 0)))), none, none, some (.inl v43)], [.inl (800 + v43), .inr (.inr (some (83, 0))), .inl v43, .inr (.inr (some (83, 0)))], m44)) rfl ?_
                  refine e_gd (s1 := (268, [some (.inr (.inr (some (12, 0)))), none, none, some (.inl v43)], [.inl (m44 83 0 (800 + v43).toNatClampNeg), .inl v43, .inr (.inr (some (83, 0)))], m44)) rfl hres (fun hc hres => ?_)
                  refine e_gd (s1 := (269, [some (.inr (.inr (some (12, 0)))), none, none, some (.inl v43)], [], (mm_w m44 83 0 v43.toNatClampNeg (m44 83 0 (800 + v43).toNatClampNeg)))) rfl hres (fun hc hres => ?_)
                  refine e_let (fun (m45 : mm_M) => (269, [some (.inr (.inr (some (12, 0)))), none, none, some (.inl v43)], [], m45)) hres (fun m45 hres => ?_)
                  refine e_steps 1 (s' := (272, [some (.inr (.inr (some (12, 0)))), none, none, some (.inl (v43 + 1))], [], m45)) rfl ?_
                  refine e_let (fun (v46 : Int32) => (272, [some (.inr (.inr (some (12, 0)))), none, none, some (.inl v46)], [], m45)) hres (fun v46 hres => ?_)
                  refine e_steps 1 (s' := (245, [some (.inr (.inr (some (12, 0)))), none, none, some (.inl v46)], [], m45)) rfl ?_
                  obtain rfl := Option.some.inj hres
                  exact e_mask (L' := [some (.inr (.inr (some (12, 0)))), none, none, some (.inl v46)]) rfl (hcl42 _ rfl)
            · obtain ⟨v35, m36⟩ := s
              show mm_E (d + 1) 182 (190, [some (.inr (.inr (some (12, 0)))), none, none, some (.inl v35)], [], m36) (.inl (some (.inl r.1)), r.2, 0, 0)
              refine e_steps 2 (s' := (192, [some (.inr (.inr (some (12, 0)))), none, none, some (.inl v35)], [.inl 4, .inl v35], m36)) rfl ?_
              refine e_if (s1 := (243, [some (.inr (.inr (some (12, 0)))), none, none, some (.inl v35)], [], m36)) (s2 := (195, [some (.inr (.inr (some (12, 0)))), none, none, some (.inl v35)], [], m36)) rfl hres (fun hc hres => ?_) (fun hc hres => ?_)
              · obtain rfl := Option.some.inj hres
                exact e_mask (L' := [some (.inr (.inr (some (12, 0)))), none, none, none]) rfl (hxl34 _ rfl)
              · refine e_steps 8 (s' := (207, [some (.inr (.inr (some (12, 0)))), none, none, some (.inl v35)], [.inl (4 + v35), .inr (.inr (some (81, 0))), .inl v35, .inr (.inr (some (81, 0)))], m36)) rfl ?_
                refine e_gd (s1 := (208, [some (.inr (.inr (some (12, 0)))), none, none, some (.inl v35)], [.inl (m36 81 0 (4 + v35).toNatClampNeg), .inl v35, .inr (.inr (some (81, 0)))], m36)) rfl hres (fun hc hres => ?_)
                refine e_gd (s1 := (209, [some (.inr (.inr (some (12, 0)))), none, none, some (.inl v35)], [], (mm_w m36 81 0 v35.toNatClampNeg (m36 81 0 (4 + v35).toNatClampNeg)))) rfl hres (fun hc hres => ?_)
                refine e_let (fun (m37 : mm_M) => (209, [some (.inr (.inr (some (12, 0)))), none, none, some (.inl v35)], [], m37)) hres (fun m37 hres => ?_)
                refine e_steps 8 (s' := (221, [some (.inr (.inr (some (12, 0)))), none, none, some (.inl v35)], [.inl (4 + v35), .inr (.inr (some (82, 0))), .inl v35, .inr (.inr (some (82, 0)))], m37)) rfl ?_
                refine e_gd (s1 := (222, [some (.inr (.inr (some (12, 0)))), none, none, some (.inl v35)], [.inl (m37 82 0 (4 + v35).toNatClampNeg), .inl v35, .inr (.inr (some (82, 0)))], m37)) rfl hres (fun hc hres => ?_)
                refine e_gd (s1 := (223, [some (.inr (.inr (some (12, 0)))), none, none, some (.inl v35)], [], (mm_w m37 82 0 v35.toNatClampNeg (m37 82 0 (4 + v35).toNatClampNeg)))) rfl hres (fun hc hres => ?_)
                refine e_let (fun (m38 : mm_M) => (223, [some (.inr (.inr (some (12, 0)))), none, none, some (.inl v35)], [], m38)) hres (fun m38 hres => ?_)
                refine e_steps 8 (s' := (235, [some (.inr (.inr (some (12, 0)))), none, none, some (.inl v35)], [.inl (4 + v35), .inr (.inr (some (86, 0))), .inl v35, .inr (.inr (some (86, 0)))], m38)) rfl ?_
                refine e_gd (s1 := (236, [some (.inr (.inr (some (12, 0)))), none, none, some (.inl v35)], [.inl (m38 86 0 (4 + v35).toNatClampNeg), .inl v35, .inr (.inr (some (86, 0)))], m38)) rfl hres (fun hc hres => ?_)
                refine e_gd2 (s1 := (237, [some (.inr (.inr (some (12, 0)))), none, none, some (.inl v35)], [], (mm_w m38 86 0 v35.toNatClampNeg (m38 86 0 (4 + v35).toNatClampNeg)))) rfl hres (fun hc hc2 hres => ?_)
                refine e_let (fun (m39 : mm_M) => (237, [some (.inr (.inr (some (12, 0)))), none, none, some (.inl v35)], [], m39)) hres (fun m39 hres => ?_)
                refine e_steps 1 (s' := (240, [some (.inr (.inr (some (12, 0)))), none, none, some (.inl (v35 + 1))], [], m39)) rfl ?_
                refine e_let (fun (v40 : Int32) => (240, [some (.inr (.inr (some (12, 0)))), none, none, some (.inl v40)], [], m39)) hres (fun v40 hres => ?_)
                refine e_steps 1 (s' := (190, [some (.inr (.inr (some (12, 0)))), none, none, some (.inl v40)], [], m39)) rfl ?_
                obtain rfl := Option.some.inj hres
                exact e_mask (L' := [some (.inr (.inr (some (12, 0)))), none, none, some (.inl v40)]) rfl (hcl34 _ rfl)
          · refine e_steps 4 (s' := (183, [some (.inr (.inr (some (12, 0)))), none, none, none], [], (mm_w m33 12 0 31 (m33 12 0 30)))) rfl ?_
            refine e_let (fun (m48 : mm_M) => (183, [some (.inr (.inr (some (12, 0)))), none, none, none], [], m48)) hres (fun m48 hres => ?_)
            refine e_steps 2 (s' := (187, [some (.inr (.inr (some (12, 0)))), none, none, none], [.inl (m48 12 0 29)], m48)) rfl ?_
            obtain rfl := Option.some.inj hres
            exact e_ret rfl rfl
        · obtain ⟨v14, m15⟩ := s
          show mm_E (d + 1) 182 (57, [some (.inr (.inr (some (12, 0)))), none, some (.inl v14), none], [], m15) (.inl (some (.inl r.1)), r.2, 0, 0)
          refine e_steps 2 (s' := (61, [some (.inr (.inr (some (12, 0)))), none, some (.inl v14), none], [.inl (m15 12 0 29)], m15)) rfl ?_
          refine e_if (s1 := (168, [some (.inr (.inr (some (12, 0)))), none, some (.inl v14), none], [], m15)) (s2 := (64, [some (.inr (.inr (some (12, 0)))), none, some (.inl v14), none], [], m15)) rfl hres (fun hc hres => ?_) (fun hc hres => ?_)
          · obtain rfl := Option.some.inj hres
            exact e_mask (L' := [some (.inr (.inr (some (12, 0)))), none, none, none]) rfl (hxl13 _ rfl)
          · refine e_steps 2 (s' := (68, [some (.inr (.inr (some (12, 0)))), none, some (.inl v14), none], [.inl (m15 12 0 24)], m15)) rfl ?_
            refine e_if (s1 := (168, [some (.inr (.inr (some (12, 0)))), none, some (.inl v14), none], [], m15)) (s2 := (71, [some (.inr (.inr (some (12, 0)))), none, some (.inl v14), none], [], m15)) rfl hres (fun hc hres => ?_) (fun hc hres => ?_)
            · obtain rfl := Option.some.inj hres
              exact e_mask (L' := [some (.inr (.inr (some (12, 0)))), none, none, none]) rfl (hxl13 _ rfl)
            · refine e_steps 3 (s' := (76, [some (.inr (.inr (some (12, 0)))), none, some (.inl v14), none], [.inr (.inr (some (66, 0))), .inr (.inr (some (12, 0)))], m15)) rfl ?_
              obtain ⟨r16, hv, hres⟩ := mm_b1_some hres
              refine e_call0 (pc := 79) (L := [some (.inr (.inr (some (12, 0)))), none, some (.inl v14), none]) (st := []) (m' := m15) (v := some (.inl r16)) rfl (k_X12_which_g66 d (by omega)  _ _ hv) ?_
              show mm_E (d + 1) 182 (79, [some (.inr (.inr (some (12, 0)))), none, some (.inl v14), none], [.inl r16], m15) (.inl (some (.inl r.1)), r.2, 0, 0)
              refine e_steps 3 (s' := (82, [some (.inr (.inr (some (12, 0)))), none, some (.inl v14), some (.inl r16)], [.inl (-1), .inl r16], m15)) rfl ?_
              refine e_join (fun k18 => ∀ (m17 : mm_M), k18 m17 = some ol13 → mm_E (d + 1) 182 (104, [some (.inr (.inr (some (12, 0)))), none, some (.inl v14), some (.inl r16)], [], m17) (.inl (some (.inl r.1)), r.2, 0, 0)) hres (fun m17 hres => ?_) (fun k18 hk18 hres => ?_)
              · refine e_steps 2 (s' := (108, [some (.inr (.inr (some (12, 0)))), none, some (.inl v14), some (.inl r16)], [.inl (m17 12 0 29)], m17)) rfl ?_
                refine e_if (s1 := (114, [some (.inr (.inr (some (12, 0)))), none, some (.inl v14), some (.inl r16)], [], m17)) (s2 := (111, [some (.inr (.inr (some (12, 0)))), none, some (.inl v14), some (.inl r16)], [], m17)) rfl hres (fun hc hres => ?_) (fun hc hres => ?_)
                · refine e_steps 1 (s' := (117, [some (.inr (.inr (some (12, 0)))), none, some (.inl (v14 + 1)), some (.inl r16)], [], m17)) rfl ?_
                  refine e_let (fun (v19 : Int32) => (117, [some (.inr (.inr (some (12, 0)))), none, some (.inl v19), some (.inl r16)], [], m17)) hres (fun v19 hres => ?_)
                  refine e_steps 1 (s' := (118, [some (.inr (.inr (some (12, 0)))), none, some (.inl v19), some (.inl r16)], [.inr (.inr (some (12, 0)))], m17)) rfl ?_
                  obtain ⟨m21, hv, hres⟩ := mm_b1_some hres
                  refine e_call0 (pc := 121) (L := [some (.inr (.inr (some (12, 0)))), none, some (.inl v19), some (.inl r16)]) (st := []) (m' := m21) (v := none) rfl (k_X12_step d (by omega)  _ _ hv) ?_
                  show mm_E (d + 1) 182 (121, [some (.inr (.inr (some (12, 0)))), none, some (.inl v19), some (.inl r16)], [], m21) (.inl (some (.inl r.1)), r.2, 0, 0)
                  refine e_steps 7 (s' := (132, [some (.inr (.inr (some (12, 0)))), none, some (.inl v19), some (.inl r16)], [.inl (m21 12 0 32), .inl (4 + r16), .inr (.inr (some (81, 0)))], m21)) rfl ?_
                  refine e_gd (s1 := (133, [some (.inr (.inr (some (12, 0)))), none, some (.inl v19), some (.inl r16)], [], (mm_w m21 81 0 ((4 + r16).toNatClampNeg) (m21 12 0 32)))) rfl hres (fun hc hres => ?_)
                  refine e_let (fun (m22 : mm_M) => (133, [some (.inr (.inr (some (12, 0)))), none, some (.inl v19), some (.inl r16)], [], m22)) hres (fun m22 hres => ?_)
                  refine e_steps 2 (s' := (135, [some (.inr (.inr (some (12, 0)))), none, some (.inl v19), some (.inl r16)], [.inl 0, .inr (.inr (some (12, 0)))], m22)) rfl ?_
                  obtain ⟨m24, hv, hres⟩ := mm_b1_some hres
                  refine e_call0 (pc := 138) (L := [some (.inr (.inr (some (12, 0)))), none, some (.inl v19), some (.inl r16)]) (st := []) (m' := m24) (v := none) rfl (k_X12_readExpression 16 d (by omega) 0 _ _ hv) ?_
                  show mm_E (d + 1) 182 (138, [some (.inr (.inr (some (12, 0)))), none, some (.inl v19), some (.inl r16)], [], m24) (.inl (some (.inl r.1)), r.2, 0, 0)
                  refine e_steps 7 (s' := (149, [some (.inr (.inr (some (12, 0)))), none, some (.inl v19), some (.inl r16)], [.inl (m24 12 0 32), .inl (4 + r16), .inr (.inr (some (82, 0)))], m24)) rfl ?_
                  refine e_gd (s1 := (150, [some (.inr (.inr (some (12, 0)))), none, some (.inl v19), some (.inl r16)], [], (mm_w m24 82 0 ((4 + r16).toNatClampNeg) (m24 12 0 32)))) rfl hres (fun hc hres => ?_)
                  refine e_let (fun (m25 : mm_M) => (150, [some (.inr (.inr (some (12, 0)))), none, some (.inl v19), some (.inl r16)], [], m25)) hres (fun m25 hres => ?_)
                  refine e_steps 6 (s' := (158, [some (.inr (.inr (some (12, 0)))), none, some (.inl v19), some (.inl r16)], [.inl 1, .inl (4 + r16), .inr (.inr (some (86, 0)))], m25)) rfl ?_
                  refine e_gd (s1 := (159, [some (.inr (.inr (some (12, 0)))), none, some (.inl v19), some (.inl r16)], [], (mm_w m25 86 0 ((4 + r16).toNatClampNeg) 1))) rfl hres (fun hc hres => ?_)
                  refine e_let (fun (m26 : mm_M) => (159, [some (.inr (.inr (some (12, 0)))), none, some (.inl v19), some (.inl r16)], [], m26)) hres (fun m26 hres => ?_)
                  refine e_steps 2 (s' := (162, [some (.inr (.inr (some (12, 0)))), none, some (.inl v19), some (.inl r16)], [.inl 59, .inr (.inr (some (12, 0)))], m26)) rfl ?_
                  obtain ⟨m28, hv, hres⟩ := mm_b1_some hres
                  refine e_call0 (pc := 165) (L := [some (.inr (.inr (some (12, 0)))), none, some (.inl v19), some (.inl r16)]) (st := []) (m' := m28) (v := none) rfl (k_X12_need d (by omega) 59 _ _ hv) ?_
                  show mm_E (d + 1) 182 (165, [some (.inr (.inr (some (12, 0)))), none, some (.inl v19), some (.inl r16)], [], m28) (.inl (some (.inl r.1)), r.2, 0, 0)
                  refine e_steps 1 (s' := (57, [some (.inr (.inr (some (12, 0)))), none, some (.inl v19), some (.inl r16)], [], m28)) rfl ?_
                  obtain rfl := Option.some.inj hres
                  exact e_mask (L' := [some (.inr (.inr (some (12, 0)))), none, some (.inl v19), none]) rfl (hcl13 _ rfl)
                · refine e_steps 1 (s' := (57, [some (.inr (.inr (some (12, 0)))), none, some (.inl v14), some (.inl r16)], [], m17)) rfl ?_
                  obtain rfl := Option.some.inj hres
                  exact e_mask (L' := [some (.inr (.inr (some (12, 0)))), none, some (.inl v14), none]) rfl (hcl13 _ rfl)
              · refine e_if (s1 := (93, [some (.inr (.inr (some (12, 0)))), none, some (.inl v14), some (.inl r16)], [], m15)) (s2 := (85, [some (.inr (.inr (some (12, 0)))), none, some (.inl v14), some (.inl r16)], [], m15)) rfl hres (fun hc hres => ?_) (fun hc hres => ?_)
                · refine e_steps 2 (s' := (96, [some (.inr (.inr (some (12, 0)))), none, some (.inl v14), some (.inl r16)], [.inl 16, .inl v14], m15)) rfl ?_
                  refine e_if (s1 := (104, [some (.inr (.inr (some (12, 0)))), none, some (.inl v14), some (.inl r16)], [], m15)) (s2 := (99, [some (.inr (.inr (some (12, 0)))), none, some (.inl v14), some (.inl r16)], [], m15)) rfl hres (fun hc hres => ?_) (fun hc hres => ?_)
                  · exact e_mask (L' := [some (.inr (.inr (some (12, 0)))), none, some (.inl v14), some (.inl r16)]) rfl (hk18 _ hres)
                  · refine e_steps 2 (s' := (101, [some (.inr (.inr (some (12, 0)))), none, some (.inl v14), some (.inl r16)], [.inl 2, .inr (.inr (some (12, 0)))], m15)) rfl ?_
                    obtain ⟨m30, hv, hres⟩ := mm_b1_some hres
                    refine e_call0 (pc := 104) (L := [some (.inr (.inr (some (12, 0)))), none, some (.inl v14), some (.inl r16)]) (st := []) (m' := m30) (v := none) rfl (k_X12_wrong d (by omega) 2 _ _ hv) ?_
                    show mm_E (d + 1) 182 (104, [some (.inr (.inr (some (12, 0)))), none, some (.inl v14), some (.inl r16)], [], m30) (.inl (some (.inl r.1)), r.2, 0, 0)
                    exact e_mask (L' := [some (.inr (.inr (some (12, 0)))), none, some (.inl v14), some (.inl r16)]) rfl (hk18 _ hres)
                · refine e_steps 2 (s' := (87, [some (.inr (.inr (some (12, 0)))), none, some (.inl v14), some (.inl r16)], [.inl 1, .inr (.inr (some (12, 0)))], m15)) rfl ?_
                  obtain ⟨m32, hv, hres⟩ := mm_b1_some hres
                  refine e_call0 (pc := 90) (L := [some (.inr (.inr (some (12, 0)))), none, some (.inl v14), some (.inl r16)]) (st := []) (m' := m32) (v := none) rfl (k_X12_wrong d (by omega) 1 _ _ hv) ?_
                  show mm_E (d + 1) 182 (90, [some (.inr (.inr (some (12, 0)))), none, some (.inl v14), some (.inl r16)], [], m32) (.inl (some (.inl r.1)), r.2, 0, 0)
                  refine e_steps 1 (s' := (104, [some (.inr (.inr (some (12, 0)))), none, some (.inl v14), some (.inl r16)], [], m32)) rfl ?_
                  exact e_mask (L' := [some (.inr (.inr (some (12, 0)))), none, some (.inl v14), some (.inl r16)]) rfl (hk18 _ hres)
      · obtain ⟨v8, m9⟩ := s
        show mm_E (d + 1) 182 (35, [some (.inr (.inr (some (12, 0)))), none, some (.inl v8), none], [], m9) (.inl (some (.inl r.1)), r.2, 0, 0)
        refine e_steps 2 (s' := (37, [some (.inr (.inr (some (12, 0)))), none, some (.inl v8), none], [.inl 4, .inl v8], m9)) rfl ?_
        refine e_if (s1 := (55, [some (.inr (.inr (some (12, 0)))), none, some (.inl v8), none], [], m9)) (s2 := (40, [some (.inr (.inr (some (12, 0)))), none, some (.inl v8), none], [], m9)) rfl hres (fun hc hres => ?_) (fun hc hres => ?_)
        · obtain rfl := Option.some.inj hres
          exact e_mask (L' := [some (.inr (.inr (some (12, 0)))), none, none, none]) rfl (hxl7 _ rfl)
        · refine e_steps 6 (s' := (48, [some (.inr (.inr (some (12, 0)))), none, some (.inl v8), none], [.inl 0, .inl (4 + v8), .inr (.inr (some (86, 0)))], m9)) rfl ?_
          refine e_gd (s1 := (49, [some (.inr (.inr (some (12, 0)))), none, some (.inl v8), none], [], (mm_w m9 86 0 ((4 + v8).toNatClampNeg) 0))) rfl hres (fun hc hres => ?_)
          refine e_let (fun (m10 : mm_M) => (49, [some (.inr (.inr (some (12, 0)))), none, some (.inl v8), none], [], m10)) hres (fun m10 hres => ?_)
          refine e_steps 1 (s' := (52, [some (.inr (.inr (some (12, 0)))), none, some (.inl (v8 + 1)), none], [], m10)) rfl ?_
          refine e_let (fun (v11 : Int32) => (52, [some (.inr (.inr (some (12, 0)))), none, some (.inl v11), none], [], m10)) hres (fun v11 hres => ?_)
          refine e_steps 1 (s' := (35, [some (.inr (.inr (some (12, 0)))), none, some (.inl v11), none], [], m10)) rfl ?_
          obtain rfl := Option.some.inj hres
          exact e_mask (L' := [some (.inr (.inr (some (12, 0)))), none, some (.inl v11), none]) rfl (hcl7 _ rfl)
    · refine e_mask (L' := [some (.inr (.inr (some (12, 0)))), none, none, none]) rfl ?_
      refine e_steps 2 (s' := (19, [some (.inr (.inr (some (12, 0)))), none, none, none], [.inl 1, .inr (.inr (some (12, 0)))], m1)) rfl ?_
      obtain ⟨r49, m50, hv, hres⟩ := mm_b2_some hres
      refine e_call0 (pc := 22) (L := [some (.inr (.inr (some (12, 0)))), none, none, none]) (st := []) (m' := m50) (v := some (.inl r49)) rfl (k_X12_fail d (by omega) 1 _ _ hv) ?_
      show mm_E (d + 1) 182 (22, [some (.inr (.inr (some (12, 0)))), none, none, none], [.inl r49], m50) (.inl (some (.inl r.1)), r.2, 0, 0)
      obtain rfl := Option.some.inj hres
      exact e_ret rfl rfl
/-- GlassThreadsModel.fault()I -/
def f_X12_fault  (m : mm_M) : Option (Int32 × mm_M) :=
mm_let (mm_w m 12 0 3 0) fun m1 =>
some ((m1 12 0 31), m1)
set_option maxHeartbeats 4000000 in
set_option maxRecDepth 100000 in
theorem k_X12_fault (d : Nat) (hd : 0 ≤ d)  (m : mm_M) (r : Int32 × mm_M) (hres : f_X12_fault  m = some r) : mm_X d 183 [.inr (.inr (some (12, 0)))] m (.inl (some (.inl r.1)), r.2, 0, 0) := by
  unfold f_X12_fault at hres
  show mm_E d 183 (0, [some (.inr (.inr (some (12, 0))))], [], m) (.inl (some (.inl r.1)), r.2, 0, 0)
  refine e_steps 3 (s' := (5, [some (.inr (.inr (some (12, 0))))], [], (mm_w m 12 0 3 0))) rfl ?_
  refine e_let (fun (m1 : mm_M) => (5, [some (.inr (.inr (some (12, 0))))], [], m1)) hres (fun m1 hres => ?_)
  refine e_steps 2 (s' := (9, [some (.inr (.inr (some (12, 0))))], [.inl (m1 12 0 31)], m1)) rfl ?_
  obtain rfl := Option.some.inj hres
  exact e_ret rfl rfl
/-- GlassThreadsModel.two(III)I -/
def f_X12_two (a0 : Int32) (a1 : Int32) (a2 : Int32) (m : mm_M) : Option (Int32) :=
if a0 = 1 then (some (a1 + a2))
else if a0 = 2 then (some (a1 - a2))
else if a0 = 3 then (some (a1 * a2))
else if a0 = 4 then (if a2 ≠ 0 then (if a2 = 0 then none else (
some (a1 / a2)))
else (some 0))
else if a0 = 5 then (if a2 ≤ a1 then (some 0)
else (some 1))
else if a0 = 6 then (if a1 ≠ a2 then (some 0)
else (some 1))
else if a0 = 7 then (if a1 = 0 then (some 0)
else (if a2 = 0 then (some 0)
else (some 1)))
else (if a1 ≠ 0 then (some 1)
else (if a2 = 0 then (some 0)
else (some 1)))
set_option maxHeartbeats 4000000 in
set_option maxRecDepth 100000 in
theorem k_X12_two (d : Nat) (hd : 0 ≤ d) (a0 : Int32) (a1 : Int32) (a2 : Int32) (m : mm_M) (r : Int32) (hres : f_X12_two a0 a1 a2 m = some r) : mm_X d 184 [.inl a0, .inl a1, .inl a2] m (.inl (some (.inl r)), m, 0, 0) := by
  unfold f_X12_two at hres
  show mm_E d 184 (0, [some (.inl a0), some (.inl a1), some (.inl a2)], [], m) (.inl (some (.inl r)), m, 0, 0)
  refine e_steps 1 (s' := (1, [some (.inl a0), some (.inl a1), some (.inl a2)], [.inl a0], m)) rfl ?_
  refine e_sw (c := a0 = 1) (s1 := (44, [some (.inl a0), some (.inl a1), some (.inl a2)], [], m)) rfl hres (fun hc hres => ?_) (fun hc hres hst => ?_)
  · refine e_steps 3 (s' := (47, [some (.inl a0), some (.inl a1), some (.inl a2)], [.inl (a1 + a2)], m)) rfl ?_
    obtain rfl := Option.some.inj hres
    exact e_ret rfl rfl
  · refine e_sw (c := a0 = 2) (s1 := (48, [some (.inl a0), some (.inl a1), some (.inl a2)], [], m)) hst hres (fun hc hres => ?_) (fun hc hres hst => ?_)
    · refine e_steps 3 (s' := (51, [some (.inl a0), some (.inl a1), some (.inl a2)], [.inl (a1 - a2)], m)) rfl ?_
      obtain rfl := Option.some.inj hres
      exact e_ret rfl rfl
    · refine e_sw (c := a0 = 3) (s1 := (52, [some (.inl a0), some (.inl a1), some (.inl a2)], [], m)) hst hres (fun hc hres => ?_) (fun hc hres hst => ?_)
      · refine e_steps 3 (s' := (55, [some (.inl a0), some (.inl a1), some (.inl a2)], [.inl (a1 * a2)], m)) rfl ?_
        obtain rfl := Option.some.inj hres
        exact e_ret rfl rfl
      · refine e_sw (c := a0 = 4) (s1 := (56, [some (.inl a0), some (.inl a1), some (.inl a2)], [], m)) hst hres (fun hc hres => ?_) (fun hc hres hst => ?_)
        · refine e_steps 1 (s' := (57, [some (.inl a0), some (.inl a1), some (.inl a2)], [.inl a2], m)) rfl ?_
          refine e_if (s1 := (64, [some (.inl a0), some (.inl a1), some (.inl a2)], [], m)) (s2 := (60, [some (.inl a0), some (.inl a1), some (.inl a2)], [], m)) rfl hres (fun hc hres => ?_) (fun hc hres => ?_)
          · refine e_steps 2 (s' := (66, [some (.inl a0), some (.inl a1), some (.inl a2)], [.inl a2, .inl a1], m)) rfl ?_
            refine e_gn (s1 := (67, [some (.inl a0), some (.inl a1), some (.inl a2)], [.inl (a1 / a2)], m)) rfl hres (fun hc hres => ?_)
            refine e_mask (L' := [none, none, none]) rfl ?_
            obtain rfl := Option.some.inj hres
            exact e_ret rfl rfl
          · refine e_steps 2 (s' := (67, [some (.inl a0), some (.inl a1), some (.inl a2)], [.inl 0], m)) rfl ?_
            refine e_mask (L' := [none, none, none]) rfl ?_
            obtain rfl := Option.some.inj hres
            exact e_ret rfl rfl
        · refine e_sw (c := a0 = 5) (s1 := (68, [some (.inl a0), some (.inl a1), some (.inl a2)], [], m)) hst hres (fun hc hres => ?_) (fun hc hres hst => ?_)
          · refine e_steps 2 (s' := (70, [some (.inl a0), some (.inl a1), some (.inl a2)], [.inl a2, .inl a1], m)) rfl ?_
            refine e_if (s1 := (77, [some (.inl a0), some (.inl a1), some (.inl a2)], [], m)) (s2 := (73, [some (.inl a0), some (.inl a1), some (.inl a2)], [], m)) rfl hres (fun hc hres => ?_) (fun hc hres => ?_)
            · refine e_steps 1 (s' := (78, [some (.inl a0), some (.inl a1), some (.inl a2)], [.inl 0], m)) rfl ?_
              refine e_mask (L' := [none, none, none]) rfl ?_
              obtain rfl := Option.some.inj hres
              exact e_ret rfl rfl
            · refine e_steps 2 (s' := (78, [some (.inl a0), some (.inl a1), some (.inl a2)], [.inl 1], m)) rfl ?_
              refine e_mask (L' := [none, none, none]) rfl ?_
              obtain rfl := Option.some.inj hres
              exact e_ret rfl rfl
          · refine e_sw (c := a0 = 6) (s1 := (79, [some (.inl a0), some (.inl a1), some (.inl a2)], [], m)) hst hres (fun hc hres => ?_) (fun hc hres hst => ?_)
            · refine e_steps 2 (s' := (81, [some (.inl a0), some (.inl a1), some (.inl a2)], [.inl a2, .inl a1], m)) rfl ?_
              refine e_if (s1 := (88, [some (.inl a0), some (.inl a1), some (.inl a2)], [], m)) (s2 := (84, [some (.inl a0), some (.inl a1), some (.inl a2)], [], m)) rfl hres (fun hc hres => ?_) (fun hc hres => ?_)
              · refine e_steps 1 (s' := (89, [some (.inl a0), some (.inl a1), some (.inl a2)], [.inl 0], m)) rfl ?_
                refine e_mask (L' := [none, none, none]) rfl ?_
                obtain rfl := Option.some.inj hres
                exact e_ret rfl rfl
              · refine e_steps 2 (s' := (89, [some (.inl a0), some (.inl a1), some (.inl a2)], [.inl 1], m)) rfl ?_
                refine e_mask (L' := [none, none, none]) rfl ?_
                obtain rfl := Option.some.inj hres
                exact e_ret rfl rfl
            · refine e_sw (c := a0 = 7) (s1 := (90, [some (.inl a0), some (.inl a1), some (.inl a2)], [], m)) hst hres (fun hc hres => ?_) (fun hc hres hst => ?_)
              · refine e_steps 1 (s' := (91, [some (.inl a0), some (.inl a1), some (.inl a2)], [.inl a1], m)) rfl ?_
                refine e_if (s1 := (102, [some (.inl a0), some (.inl a1), some (.inl a2)], [], m)) (s2 := (94, [some (.inl a0), some (.inl a1), some (.inl a2)], [], m)) rfl hres (fun hc hres => ?_) (fun hc hres => ?_)
                · refine e_mask (L' := [none, none, none]) rfl ?_
                  refine e_steps 1 (s' := (103, [none, none, none], [.inl 0], m)) rfl ?_
                  obtain rfl := Option.some.inj hres
                  exact e_ret rfl rfl
                · refine e_steps 1 (s' := (95, [some (.inl a0), some (.inl a1), some (.inl a2)], [.inl a2], m)) rfl ?_
                  refine e_if (s1 := (102, [some (.inl a0), some (.inl a1), some (.inl a2)], [], m)) (s2 := (98, [some (.inl a0), some (.inl a1), some (.inl a2)], [], m)) rfl hres (fun hc hres => ?_) (fun hc hres => ?_)
                  · refine e_mask (L' := [none, none, none]) rfl ?_
                    refine e_steps 1 (s' := (103, [none, none, none], [.inl 0], m)) rfl ?_
                    obtain rfl := Option.some.inj hres
                    exact e_ret rfl rfl
                  · refine e_steps 2 (s' := (103, [some (.inl a0), some (.inl a1), some (.inl a2)], [.inl 1], m)) rfl ?_
                    refine e_mask (L' := [none, none, none]) rfl ?_
                    obtain rfl := Option.some.inj hres
                    exact e_ret rfl rfl
              · refine e_step (s' := (104, [some (.inl a0), some (.inl a1), some (.inl a2)], [], m)) hst ?_
                refine e_steps 1 (s' := (105, [some (.inl a0), some (.inl a1), some (.inl a2)], [.inl a1], m)) rfl ?_
                refine e_if (s1 := (112, [some (.inl a0), some (.inl a1), some (.inl a2)], [], m)) (s2 := (108, [some (.inl a0), some (.inl a1), some (.inl a2)], [], m)) rfl hres (fun hc hres => ?_) (fun hc hres => ?_)
                · refine e_mask (L' := [none, none, none]) rfl ?_
                  refine e_steps 2 (s' := (117, [none, none, none], [.inl 1], m)) rfl ?_
                  obtain rfl := Option.some.inj hres
                  exact e_ret rfl rfl
                · refine e_steps 1 (s' := (109, [some (.inl a0), some (.inl a1), some (.inl a2)], [.inl a2], m)) rfl ?_
                  refine e_if (s1 := (116, [some (.inl a0), some (.inl a1), some (.inl a2)], [], m)) (s2 := (112, [some (.inl a0), some (.inl a1), some (.inl a2)], [], m)) rfl hres (fun hc hres => ?_) (fun hc hres => ?_)
                  · refine e_steps 1 (s' := (117, [some (.inl a0), some (.inl a1), some (.inl a2)], [.inl 0], m)) rfl ?_
                    refine e_mask (L' := [none, none, none]) rfl ?_
                    obtain rfl := Option.some.inj hres
                    exact e_ret rfl rfl
                  · refine e_mask (L' := [none, none, none]) rfl ?_
                    refine e_steps 2 (s' := (117, [none, none, none], [.inl 1], m)) rfl ?_
                    obtain rfl := Option.some.inj hres
                    exact e_ret rfl rfl
/-- GlassThreadsModel.worked(I)I -/
def f_X12_worked (a1 : Int32) (m : mm_M) : Option (Int32 × mm_M) :=
if mm_in a1 8 then (
mm_let (m 81 0 a1.toNatClampNeg) fun v1 =>
(mm_b1 (mm_loop (σ := Int32 × Int32 × mm_M) (ρ := (mm_M)) (fun (s : Int32 × Int32 × mm_M) => match s with
| (v3, v4, m5) => (if mm_in a1 8 then (
if (m5 82 0 a1.toNatClampNeg) ≤ v4 then (some (.inr m5))
else (if mm_in v4 1600 then (
mm_let (m5 83 0 v4.toNatClampNeg) fun v6 =>
if v6 ≠ 0 then (if v6 < 20 then (if v6 ≠ 9 then (mm_let (v3 + (-1)) fun v7 =>
if mm_in (v7 - 1) 220 then (
if mm_in v7 220 then (
mm_b1 (f_X12_two v6 (m5 85 0 (v7 - 1).toNatClampNeg) (m5 85 0 v7.toNatClampNeg) m5) fun r8 =>
if mm_in (v7 - 1) 220 then (
mm_let (mm_w m5 85 0 ((v7 - 1).toNatClampNeg) r8) fun m9 =>
mm_let (v4 + 1) fun v10 =>
some (.inl (v7, v10, m9))) else none) else none) else none)
else (if mm_in (v3 - 1) 220 then (
if (m5 85 0 (v3 - 1).toNatClampNeg) ≠ 0 then (if mm_in (v3 - 1) 220 then (
mm_let (mm_w m5 85 0 ((v3 - 1).toNatClampNeg) 0) fun m11 =>
mm_let (v4 + 1) fun v12 =>
some (.inl (v3, v12, m11))) else none)
else (if mm_in (v3 - 1) 220 then (
mm_let (mm_w m5 85 0 ((v3 - 1).toNatClampNeg) 1) fun m13 =>
mm_let (v4 + 1) fun v14 =>
some (.inl (v3, v14, m13))) else none)) else none))
else (if mm_in (v6 - 20) 5 then (
if mm_in v3 220 then (
mm_let (mm_w m5 85 0 v3.toNatClampNeg (m5 84 0 (v6 - 20).toNatClampNeg)) fun m15 =>
mm_let (v3 + 1) fun v16 =>
mm_let (v4 + 1) fun v17 =>
some (.inl (v16, v17, m15))) else none) else none))
else (mm_let (v4 + 1) fun v18 =>
if mm_in v18 1600 then (
if mm_in v3 220 then (
mm_let (mm_w m5 85 0 v3.toNatClampNeg (m5 83 0 v18.toNatClampNeg)) fun m19 =>
mm_let (v3 + 1) fun v20 =>
mm_let (v18 + 1) fun v21 =>
some (.inl (v20, v21, m19))) else none) else none)) else none)) else none : Option ((Int32 × Int32 × mm_M) ⊕ ((mm_M))))) mm_fu (0, v1, m)) fun m22 =>
some ((m22 85 0 0), m22))) else none
set_option maxHeartbeats 4000000 in
set_option maxRecDepth 100000 in
theorem k_X12_worked (d : Nat) (hd : 1 ≤ d) (a1 : Int32) (m : mm_M) (r : Int32 × mm_M) (hres : f_X12_worked a1 m = some r) : mm_X d 185 [.inr (.inr (some (12, 0))), .inl a1] m (.inl (some (.inl r.1)), r.2, 0, 0) := by
  unfold f_X12_worked at hres
  obtain ⟨d, rfl⟩ : ∃ e, d = e + 1 := ⟨d - 1, by omega⟩
  show mm_E (d + 1) 185 (0, [some (.inr (.inr (some (12, 0)))), some (.inl a1), none, none, none], [], m) (.inl (some (.inl r.1)), r.2, 0, 0)
  refine e_steps 5 (s' := (7, [some (.inr (.inr (some (12, 0)))), some (.inl a1), some (.inl 0), none, none], [.inl a1, .inr (.inr (some (81, 0)))], m)) rfl ?_
  refine e_gd (s1 := (8, [some (.inr (.inr (some (12, 0)))), some (.inl a1), some (.inl 0), none, none], [.inl (m 81 0 a1.toNatClampNeg)], m)) rfl hres (fun hc hres => ?_)
  refine e_steps 1 (s' := (9, [some (.inr (.inr (some (12, 0)))), some (.inl a1), some (.inl 0), some (.inl (m 81 0 a1.toNatClampNeg)), none], [], m)) rfl ?_
  refine e_let (fun (v1 : Int32) => (9, [some (.inr (.inr (some (12, 0)))), some (.inl a1), some (.inl 0), some (.inl v1), none], [], m)) hres (fun v1 hres => ?_)
  refine e_mask (L' := [some (.inr (.inr (some (12, 0)))), some (.inl a1), some (.inl 0), some (.inl v1), none]) rfl ?_
  refine e_loopb (φ := fun s => (9, [some (.inr (.inr (some (12, 0)))), some (.inl a1), some (.inl s.1), some (.inl s.2.1), none], [], s.2.2)) (K := fun t => mm_E (d + 1) 185 (152, [some (.inr (.inr (some (12, 0)))), none, none, none, none], [], t) (.inl (some (.inl r.1)), r.2, 0, 0)) hres (fun m22 hres => ?_) (fun s ol2 hres hcl2 hxl2 => ?_)
  · show mm_E (d + 1) 185 (152, [some (.inr (.inr (some (12, 0)))), none, none, none, none], [], m22) (.inl (some (.inl r.1)), r.2, 0, 0)
    refine e_steps 4 (s' := (158, [some (.inr (.inr (some (12, 0)))), none, none, none, none], [.inl (m22 85 0 0)], m22)) rfl ?_
    obtain rfl := Option.some.inj hres
    exact e_ret rfl rfl
  · obtain ⟨v3, v4, m5⟩ := s
    show mm_E (d + 1) 185 (9, [some (.inr (.inr (some (12, 0)))), some (.inl a1), some (.inl v3), some (.inl v4), none], [], m5) (.inl (some (.inl r.1)), r.2, 0, 0)
    refine e_steps 4 (s' := (15, [some (.inr (.inr (some (12, 0)))), some (.inl a1), some (.inl v3), some (.inl v4), none], [.inl a1, .inr (.inr (some (82, 0))), .inl v4], m5)) rfl ?_
    refine e_gd (s1 := (16, [some (.inr (.inr (some (12, 0)))), some (.inl a1), some (.inl v3), some (.inl v4), none], [.inl (m5 82 0 a1.toNatClampNeg), .inl v4], m5)) rfl hres (fun hc hres => ?_)
    refine e_if (s1 := (152, [some (.inr (.inr (some (12, 0)))), some (.inl a1), some (.inl v3), some (.inl v4), none], [], m5)) (s2 := (19, [some (.inr (.inr (some (12, 0)))), some (.inl a1), some (.inl v3), some (.inl v4), none], [], m5)) rfl hres (fun hc hres => ?_) (fun hc hres => ?_)
    · obtain rfl := Option.some.inj hres
      exact e_mask (L' := [some (.inr (.inr (some (12, 0)))), none, none, none, none]) rfl (hxl2 _ rfl)
    · refine e_steps 3 (s' := (24, [some (.inr (.inr (some (12, 0)))), some (.inl a1), some (.inl v3), some (.inl v4), none], [.inl v4, .inr (.inr (some (83, 0)))], m5)) rfl ?_
      refine e_gd (s1 := (25, [some (.inr (.inr (some (12, 0)))), some (.inl a1), some (.inl v3), some (.inl v4), none], [.inl (m5 83 0 v4.toNatClampNeg)], m5)) rfl hres (fun hc hres => ?_)
      refine e_steps 1 (s' := (27, [some (.inr (.inr (some (12, 0)))), some (.inl a1), some (.inl v3), some (.inl v4), some (.inl (m5 83 0 v4.toNatClampNeg))], [], m5)) rfl ?_
      refine e_let (fun (v6 : Int32) => (27, [some (.inr (.inr (some (12, 0)))), some (.inl a1), some (.inl v3), some (.inl v4), some (.inl v6)], [], m5)) hres (fun v6 hres => ?_)
      refine e_steps 1 (s' := (29, [some (.inr (.inr (some (12, 0)))), some (.inl a1), some (.inl v3), some (.inl v4), some (.inl v6)], [.inl v6], m5)) rfl ?_
      refine e_if (s1 := (53, [some (.inr (.inr (some (12, 0)))), some (.inl a1), some (.inl v3), some (.inl v4), some (.inl v6)], [], m5)) (s2 := (32, [some (.inr (.inr (some (12, 0)))), some (.inl a1), some (.inl v3), some (.inl v4), some (.inl v6)], [], m5)) rfl hres (fun hc hres => ?_) (fun hc hres => ?_)
      · refine e_steps 2 (s' := (57, [some (.inr (.inr (some (12, 0)))), some (.inl a1), some (.inl v3), some (.inl v4), some (.inl v6)], [.inl 20, .inl v6], m5)) rfl ?_
        refine e_if (s1 := (82, [some (.inr (.inr (some (12, 0)))), some (.inl a1), some (.inl v3), some (.inl v4), some (.inl v6)], [], m5)) (s2 := (60, [some (.inr (.inr (some (12, 0)))), some (.inl a1), some (.inl v3), some (.inl v4), some (.inl v6)], [], m5)) rfl hres (fun hc hres => ?_) (fun hc hres => ?_)
        · refine e_steps 2 (s' := (86, [some (.inr (.inr (some (12, 0)))), some (.inl a1), some (.inl v3), some (.inl v4), some (.inl v6)], [.inl 9, .inl v6], m5)) rfl ?_
          refine e_if (s1 := (116, [some (.inr (.inr (some (12, 0)))), some (.inl a1), some (.inl v3), some (.inl v4), some (.inl v6)], [], m5)) (s2 := (89, [some (.inr (.inr (some (12, 0)))), some (.inl a1), some (.inl v3), some (.inl v4), some (.inl v6)], [], m5)) rfl hres (fun hc hres => ?_) (fun hc hres => ?_)
          · refine e_steps 1 (s' := (119, [some (.inr (.inr (some (12, 0)))), some (.inl a1), some (.inl (v3 + (-1))), some (.inl v4), some (.inl v6)], [], m5)) rfl ?_
            refine e_let (fun (v7 : Int32) => (119, [some (.inr (.inr (some (12, 0)))), some (.inl a1), some (.inl v7), some (.inl v4), some (.inl v6)], [], m5)) hres (fun v7 hres => ?_)
            refine e_steps 11 (s' := (135, [some (.inr (.inr (some (12, 0)))), some (.inl a1), some (.inl v7), some (.inl v4), some (.inl v6)], [.inl (v7 - 1), .inr (.inr (some (85, 0))), .inl v6, .inl (v7 - 1), .inr (.inr (some (85, 0)))], m5)) rfl ?_
            refine e_gd (s1 := (136, [some (.inr (.inr (some (12, 0)))), some (.inl a1), some (.inl v7), some (.inl v4), some (.inl v6)], [.inl (m5 85 0 (v7 - 1).toNatClampNeg), .inl v6, .inl (v7 - 1), .inr (.inr (some (85, 0)))], m5)) rfl hres (fun hc hres => ?_)
            refine e_steps 3 (s' := (141, [some (.inr (.inr (some (12, 0)))), some (.inl a1), some (.inl v7), some (.inl v4), some (.inl v6)], [.inl v7, .inr (.inr (some (85, 0))), .inl (m5 85 0 (v7 - 1).toNatClampNeg), .inl v6, .inl (v7 - 1), .inr (.inr (some (85, 0)))], m5)) rfl ?_
            refine e_gd (s1 := (142, [some (.inr (.inr (some (12, 0)))), some (.inl a1), some (.inl v7), some (.inl v4), some (.inl v6)], [.inl (m5 85 0 v7.toNatClampNeg), .inl (m5 85 0 (v7 - 1).toNatClampNeg), .inl v6, .inl (v7 - 1), .inr (.inr (some (85, 0)))], m5)) rfl hres (fun hc hres => ?_)
            obtain ⟨r8, hv, hres⟩ := mm_b1_some hres
            refine e_call0 (pc := 145) (L := [some (.inr (.inr (some (12, 0)))), some (.inl a1), some (.inl v7), some (.inl v4), some (.inl v6)]) (st := [.inl (v7 - 1), .inr (.inr (some (85, 0)))]) (m' := m5) (v := some (.inl r8)) rfl (k_X12_two d (by omega) v6 (m5 85 0 (v7 - 1).toNatClampNeg) (m5 85 0 v7.toNatClampNeg) _ _ hv) ?_
            show mm_E (d + 1) 185 (145, [some (.inr (.inr (some (12, 0)))), some (.inl a1), some (.inl v7), some (.inl v4), some (.inl v6)], [.inl r8, .inl (v7 - 1), .inr (.inr (some (85, 0)))], m5) (.inl (some (.inl r.1)), r.2, 0, 0)
            refine e_gd (s1 := (146, [some (.inr (.inr (some (12, 0)))), some (.inl a1), some (.inl v7), some (.inl v4), some (.inl v6)], [], (mm_w m5 85 0 ((v7 - 1).toNatClampNeg) r8))) rfl hres (fun hc hres => ?_)
            refine e_let (fun (m9 : mm_M) => (146, [some (.inr (.inr (some (12, 0)))), some (.inl a1), some (.inl v7), some (.inl v4), some (.inl v6)], [], m9)) hres (fun m9 hres => ?_)
            refine e_mask (L' := [some (.inr (.inr (some (12, 0)))), some (.inl a1), some (.inl v7), some (.inl v4), none]) rfl ?_
            refine e_steps 1 (s' := (149, [some (.inr (.inr (some (12, 0)))), some (.inl a1), some (.inl v7), some (.inl (v4 + 1)), none], [], m9)) rfl ?_
            refine e_let (fun (v10 : Int32) => (149, [some (.inr (.inr (some (12, 0)))), some (.inl a1), some (.inl v7), some (.inl v10), none], [], m9)) hres (fun v10 hres => ?_)
            refine e_steps 1 (s' := (9, [some (.inr (.inr (some (12, 0)))), some (.inl a1), some (.inl v7), some (.inl v10), none], [], m9)) rfl ?_
            obtain rfl := Option.some.inj hres
            exact e_mask (L' := [some (.inr (.inr (some (12, 0)))), some (.inl a1), some (.inl v7), some (.inl v10), none]) rfl (hcl2 _ rfl)
          · refine e_steps 10 (s' := (103, [some (.inr (.inr (some (12, 0)))), some (.inl a1), some (.inl v3), some (.inl v4), some (.inl v6)], [.inl (v3 - 1), .inr (.inr (some (85, 0))), .inl (v3 - 1), .inr (.inr (some (85, 0)))], m5)) rfl ?_
            refine e_gd (s1 := (104, [some (.inr (.inr (some (12, 0)))), some (.inl a1), some (.inl v3), some (.inl v4), some (.inl v6)], [.inl (m5 85 0 (v3 - 1).toNatClampNeg), .inl (v3 - 1), .inr (.inr (some (85, 0)))], m5)) rfl hres (fun hc hres => ?_)
            refine e_if (s1 := (111, [some (.inr (.inr (some (12, 0)))), some (.inl a1), some (.inl v3), some (.inl v4), some (.inl v6)], [.inl (v3 - 1), .inr (.inr (some (85, 0)))], m5)) (s2 := (107, [some (.inr (.inr (some (12, 0)))), some (.inl a1), some (.inl v3), some (.inl v4), some (.inl v6)], [.inl (v3 - 1), .inr (.inr (some (85, 0)))], m5)) rfl hres (fun hc hres => ?_) (fun hc hres => ?_)
            · refine e_steps 1 (s' := (112, [some (.inr (.inr (some (12, 0)))), some (.inl a1), some (.inl v3), some (.inl v4), some (.inl v6)], [.inl 0, .inl (v3 - 1), .inr (.inr (some (85, 0)))], m5)) rfl ?_
              refine e_mask (L' := [some (.inr (.inr (some (12, 0)))), some (.inl a1), some (.inl v3), some (.inl v4), none]) rfl ?_
              refine e_gd (s1 := (113, [some (.inr (.inr (some (12, 0)))), some (.inl a1), some (.inl v3), some (.inl v4), none], [], (mm_w m5 85 0 ((v3 - 1).toNatClampNeg) 0))) rfl hres (fun hc hres => ?_)
              refine e_let (fun (m11 : mm_M) => (113, [some (.inr (.inr (some (12, 0)))), some (.inl a1), some (.inl v3), some (.inl v4), none], [], m11)) hres (fun m11 hres => ?_)
              refine e_steps 2 (s' := (149, [some (.inr (.inr (some (12, 0)))), some (.inl a1), some (.inl v3), some (.inl (v4 + 1)), none], [], m11)) rfl ?_
              refine e_let (fun (v12 : Int32) => (149, [some (.inr (.inr (some (12, 0)))), some (.inl a1), some (.inl v3), some (.inl v12), none], [], m11)) hres (fun v12 hres => ?_)
              refine e_steps 1 (s' := (9, [some (.inr (.inr (some (12, 0)))), some (.inl a1), some (.inl v3), some (.inl v12), none], [], m11)) rfl ?_
              obtain rfl := Option.some.inj hres
              exact e_mask (L' := [some (.inr (.inr (some (12, 0)))), some (.inl a1), some (.inl v3), some (.inl v12), none]) rfl (hcl2 _ rfl)
            · refine e_steps 2 (s' := (112, [some (.inr (.inr (some (12, 0)))), some (.inl a1), some (.inl v3), some (.inl v4), some (.inl v6)], [.inl 1, .inl (v3 - 1), .inr (.inr (some (85, 0)))], m5)) rfl ?_
              refine e_mask (L' := [some (.inr (.inr (some (12, 0)))), some (.inl a1), some (.inl v3), some (.inl v4), none]) rfl ?_
              refine e_gd (s1 := (113, [some (.inr (.inr (some (12, 0)))), some (.inl a1), some (.inl v3), some (.inl v4), none], [], (mm_w m5 85 0 ((v3 - 1).toNatClampNeg) 1))) rfl hres (fun hc hres => ?_)
              refine e_let (fun (m13 : mm_M) => (113, [some (.inr (.inr (some (12, 0)))), some (.inl a1), some (.inl v3), some (.inl v4), none], [], m13)) hres (fun m13 hres => ?_)
              refine e_steps 2 (s' := (149, [some (.inr (.inr (some (12, 0)))), some (.inl a1), some (.inl v3), some (.inl (v4 + 1)), none], [], m13)) rfl ?_
              refine e_let (fun (v14 : Int32) => (149, [some (.inr (.inr (some (12, 0)))), some (.inl a1), some (.inl v3), some (.inl v14), none], [], m13)) hres (fun v14 hres => ?_)
              refine e_steps 1 (s' := (9, [some (.inr (.inr (some (12, 0)))), some (.inl a1), some (.inl v3), some (.inl v14), none], [], m13)) rfl ?_
              obtain rfl := Option.some.inj hres
              exact e_mask (L' := [some (.inr (.inr (some (12, 0)))), some (.inl a1), some (.inl v3), some (.inl v14), none]) rfl (hcl2 _ rfl)
        · refine e_steps 8 (s' := (74, [some (.inr (.inr (some (12, 0)))), some (.inl a1), some (.inl v3), some (.inl v4), some (.inl v6)], [.inl (v6 - 20), .inr (.inr (some (84, 0))), .inl v3, .inr (.inr (some (85, 0)))], m5)) rfl ?_
          refine e_gd (s1 := (75, [some (.inr (.inr (some (12, 0)))), some (.inl a1), some (.inl v3), some (.inl v4), some (.inl v6)], [.inl (m5 84 0 (v6 - 20).toNatClampNeg), .inl v3, .inr (.inr (some (85, 0)))], m5)) rfl hres (fun hc hres => ?_)
          refine e_gd (s1 := (76, [some (.inr (.inr (some (12, 0)))), some (.inl a1), some (.inl v3), some (.inl v4), some (.inl v6)], [], (mm_w m5 85 0 v3.toNatClampNeg (m5 84 0 (v6 - 20).toNatClampNeg)))) rfl hres (fun hc hres => ?_)
          refine e_let (fun (m15 : mm_M) => (76, [some (.inr (.inr (some (12, 0)))), some (.inl a1), some (.inl v3), some (.inl v4), some (.inl v6)], [], m15)) hres (fun m15 hres => ?_)
          refine e_steps 1 (s' := (79, [some (.inr (.inr (some (12, 0)))), some (.inl a1), some (.inl (v3 + 1)), some (.inl v4), some (.inl v6)], [], m15)) rfl ?_
          refine e_let (fun (v16 : Int32) => (79, [some (.inr (.inr (some (12, 0)))), some (.inl a1), some (.inl v16), some (.inl v4), some (.inl v6)], [], m15)) hres (fun v16 hres => ?_)
          refine e_steps 1 (s' := (146, [some (.inr (.inr (some (12, 0)))), some (.inl a1), some (.inl v16), some (.inl v4), some (.inl v6)], [], m15)) rfl ?_
          refine e_mask (L' := [some (.inr (.inr (some (12, 0)))), some (.inl a1), some (.inl v16), some (.inl v4), none]) rfl ?_
          refine e_steps 1 (s' := (149, [some (.inr (.inr (some (12, 0)))), some (.inl a1), some (.inl v16), some (.inl (v4 + 1)), none], [], m15)) rfl ?_
          refine e_let (fun (v17 : Int32) => (149, [some (.inr (.inr (some (12, 0)))), some (.inl a1), some (.inl v16), some (.inl v17), none], [], m15)) hres (fun v17 hres => ?_)
          refine e_steps 1 (s' := (9, [some (.inr (.inr (some (12, 0)))), some (.inl a1), some (.inl v16), some (.inl v17), none], [], m15)) rfl ?_
          obtain rfl := Option.some.inj hres
          exact e_mask (L' := [some (.inr (.inr (some (12, 0)))), some (.inl a1), some (.inl v16), some (.inl v17), none]) rfl (hcl2 _ rfl)
      · refine e_steps 1 (s' := (35, [some (.inr (.inr (some (12, 0)))), some (.inl a1), some (.inl v3), some (.inl (v4 + 1)), some (.inl v6)], [], m5)) rfl ?_
        refine e_let (fun (v18 : Int32) => (35, [some (.inr (.inr (some (12, 0)))), some (.inl a1), some (.inl v3), some (.inl v18), some (.inl v6)], [], m5)) hres (fun v18 hres => ?_)
        refine e_steps 6 (s' := (45, [some (.inr (.inr (some (12, 0)))), some (.inl a1), some (.inl v3), some (.inl v18), some (.inl v6)], [.inl v18, .inr (.inr (some (83, 0))), .inl v3, .inr (.inr (some (85, 0)))], m5)) rfl ?_
        refine e_gd (s1 := (46, [some (.inr (.inr (some (12, 0)))), some (.inl a1), some (.inl v3), some (.inl v18), some (.inl v6)], [.inl (m5 83 0 v18.toNatClampNeg), .inl v3, .inr (.inr (some (85, 0)))], m5)) rfl hres (fun hc hres => ?_)
        refine e_gd (s1 := (47, [some (.inr (.inr (some (12, 0)))), some (.inl a1), some (.inl v3), some (.inl v18), some (.inl v6)], [], (mm_w m5 85 0 v3.toNatClampNeg (m5 83 0 v18.toNatClampNeg)))) rfl hres (fun hc hres => ?_)
        refine e_let (fun (m19 : mm_M) => (47, [some (.inr (.inr (some (12, 0)))), some (.inl a1), some (.inl v3), some (.inl v18), some (.inl v6)], [], m19)) hres (fun m19 hres => ?_)
        refine e_steps 1 (s' := (50, [some (.inr (.inr (some (12, 0)))), some (.inl a1), some (.inl (v3 + 1)), some (.inl v18), some (.inl v6)], [], m19)) rfl ?_
        refine e_let (fun (v20 : Int32) => (50, [some (.inr (.inr (some (12, 0)))), some (.inl a1), some (.inl v20), some (.inl v18), some (.inl v6)], [], m19)) hres (fun v20 hres => ?_)
        refine e_steps 1 (s' := (146, [some (.inr (.inr (some (12, 0)))), some (.inl a1), some (.inl v20), some (.inl v18), some (.inl v6)], [], m19)) rfl ?_
        refine e_mask (L' := [some (.inr (.inr (some (12, 0)))), some (.inl a1), some (.inl v20), some (.inl v18), none]) rfl ?_
        refine e_steps 1 (s' := (149, [some (.inr (.inr (some (12, 0)))), some (.inl a1), some (.inl v20), some (.inl (v18 + 1)), none], [], m19)) rfl ?_
        refine e_let (fun (v21 : Int32) => (149, [some (.inr (.inr (some (12, 0)))), some (.inl a1), some (.inl v20), some (.inl v21), none], [], m19)) hres (fun v21 hres => ?_)
        refine e_steps 1 (s' := (9, [some (.inr (.inr (some (12, 0)))), some (.inl a1), some (.inl v20), some (.inl v21), none], [], m19)) rfl ?_
        obtain rfl := Option.some.inj hres
        exact e_mask (L' := [some (.inr (.inr (some (12, 0)))), some (.inl a1), some (.inl v20), some (.inl v21), none]) rfl (hcl2 _ rfl)
/-- GlassThreadsModel.lossOf(III)I -/
def f_X12_lossOf (a1 : Int32) (a2 : Int32) (a3 : Int32) (m : mm_M) : Option (Int32 × mm_M) :=
if mm_in a1 216 then (
mm_let (m 69 0 a1.toNatClampNeg) fun v1 =>
if mm_in v1 8 then (
if (m 86 0 v1.toNatClampNeg) ≠ 0 then (mm_let (mm_w m 84 0 0 a2) fun m2 =>
mm_let (mm_w m2 84 0 1 a3) fun m3 =>
mm_let (fun (w4 : Int32) => (mm_let (mm_w m3 84 0 2 w4) fun m6 =>
mm_let (fun (w7 : Int32) => (mm_let (mm_w m6 84 0 3 w7) fun m9 =>
if mm_in a1 216 then (
mm_let (mm_w m9 84 0 4 (m9 72 0 a1.toNatClampNeg)) fun m10 =>
mm_b2 (f_X12_worked v1 m10) fun r11 m12 =>
some ((mm_max 0 (mm_min 99999 r11)), m12)) else none : Option (Int32 × mm_M))) fun k8 =>
if v1 = 2 then (if mm_in a1 216 then (
k8 (m6 70 0 a1.toNatClampNeg)) else none)
else (if v1 ≠ 3 then (k8 0)
else (if mm_in a1 216 then (
k8 (m6 70 0 a1.toNatClampNeg)) else none)) : Option (Int32 × mm_M))) fun k5 =>
if v1 ≠ 0 then (k5 0)
else (if mm_in a1 216 then (
k5 (m3 70 0 a1.toNatClampNeg)) else none))
else (if v1 ≠ 0 then (if v1 ≠ 1 then (if v1 ≠ 2 then (some (200, m))
else (some (300, m)))
else (some (50, m)))
else (if mm_in a1 216 then (
some ((2 * (m 70 0 a1.toNatClampNeg)), m)) else none))) else none) else none
set_option maxHeartbeats 4000000 in
set_option maxRecDepth 100000 in
theorem k_X12_lossOf (d : Nat) (hd : 2 ≤ d) (a1 : Int32) (a2 : Int32) (a3 : Int32) (m : mm_M) (r : Int32 × mm_M) (hres : f_X12_lossOf a1 a2 a3 m = some r) : mm_X d 186 [.inr (.inr (some (12, 0))), .inl a1, .inl a2, .inl a3] m (.inl (some (.inl r.1)), r.2, 0, 0) := by
  unfold f_X12_lossOf at hres
  obtain ⟨d, rfl⟩ : ∃ e, d = e + 1 := ⟨d - 1, by omega⟩
  show mm_E (d + 1) 186 (0, [some (.inr (.inr (some (12, 0)))), some (.inl a1), some (.inl a2), some (.inl a3), none], [], m) (.inl (some (.inl r.1)), r.2, 0, 0)
  refine e_steps 3 (s' := (5, [some (.inr (.inr (some (12, 0)))), some (.inl a1), some (.inl a2), some (.inl a3), none], [.inl a1, .inr (.inr (some (69, 0)))], m)) rfl ?_
  refine e_gd (s1 := (6, [some (.inr (.inr (some (12, 0)))), some (.inl a1), some (.inl a2), some (.inl a3), none], [.inl (m 69 0 a1.toNatClampNeg)], m)) rfl hres (fun hc hres => ?_)
  refine e_steps 1 (s' := (8, [some (.inr (.inr (some (12, 0)))), some (.inl a1), some (.inl a2), some (.inl a3), some (.inl (m 69 0 a1.toNatClampNeg))], [], m)) rfl ?_
  refine e_let (fun (v1 : Int32) => (8, [some (.inr (.inr (some (12, 0)))), some (.inl a1), some (.inl a2), some (.inl a3), some (.inl v1)], [], m)) hres (fun v1 hres => ?_)
  refine e_steps 3 (s' := (14, [some (.inr (.inr (some (12, 0)))), some (.inl a1), some (.inl a2), some (.inl a3), some (.inl v1)], [.inl v1, .inr (.inr (some (86, 0)))], m)) rfl ?_
  refine e_gd (s1 := (15, [some (.inr (.inr (some (12, 0)))), some (.inl a1), some (.inl a2), some (.inl a3), some (.inl v1)], [.inl (m 86 0 v1.toNatClampNeg)], m)) rfl hres (fun hc hres => ?_)
  refine e_if (s1 := (61, [some (.inr (.inr (some (12, 0)))), some (.inl a1), some (.inl a2), some (.inl a3), some (.inl v1)], [], m)) (s2 := (18, [some (.inr (.inr (some (12, 0)))), some (.inl a1), some (.inl a2), some (.inl a3), some (.inl v1)], [], m)) rfl hres (fun hc hres => ?_) (fun hc hres => ?_)
  · refine e_steps 5 (s' := (68, [some (.inr (.inr (some (12, 0)))), some (.inl a1), some (.inl a2), some (.inl a3), some (.inl v1)], [], (mm_w m 84 0 0 a2))) rfl ?_
    refine e_let (fun (m2 : mm_M) => (68, [some (.inr (.inr (some (12, 0)))), some (.inl a1), some (.inl a2), some (.inl a3), some (.inl v1)], [], m2)) hres (fun m2 hres => ?_)
    refine e_steps 5 (s' := (75, [some (.inr (.inr (some (12, 0)))), some (.inl a1), some (.inl a2), some (.inl a3), some (.inl v1)], [], (mm_w m2 84 0 1 a3))) rfl ?_
    refine e_let (fun (m3 : mm_M) => (75, [some (.inr (.inr (some (12, 0)))), some (.inl a1), some (.inl a2), some (.inl a3), some (.inl v1)], [], m3)) hres (fun m3 hres => ?_)
    refine e_steps 4 (s' := (82, [some (.inr (.inr (some (12, 0)))), some (.inl a1), some (.inl a2), some (.inl a3), some (.inl v1)], [.inl v1, .inl 2, .inr (.inr (some (84, 0)))], m3)) rfl ?_
    refine e_join (fun k5 => ∀ (w4 : Int32), k5 w4 = some r → mm_E (d + 1) 186 (95, [some (.inr (.inr (some (12, 0)))), some (.inl a1), none, none, some (.inl v1)], [.inl w4, .inl 2, .inr (.inr (some (84, 0)))], m3) (.inl (some (.inl r.1)), r.2, 0, 0)) hres (fun w4 hres => ?_) (fun k5 hk5 hres => ?_)
    · refine e_steps 1 (s' := (96, [some (.inr (.inr (some (12, 0)))), some (.inl a1), none, none, some (.inl v1)], [], (mm_w m3 84 0 2 w4))) rfl ?_
      refine e_let (fun (m6 : mm_M) => (96, [some (.inr (.inr (some (12, 0)))), some (.inl a1), none, none, some (.inl v1)], [], m6)) hres (fun m6 hres => ?_)
      refine e_steps 5 (s' := (104, [some (.inr (.inr (some (12, 0)))), some (.inl a1), none, none, some (.inl v1)], [.inl 2, .inl v1, .inl 3, .inr (.inr (some (84, 0)))], m6)) rfl ?_
      refine e_join (fun k8 => ∀ (w7 : Int32), k8 w7 = some r → mm_E (d + 1) 186 (123, [some (.inr (.inr (some (12, 0)))), some (.inl a1), none, none, some (.inl v1)], [.inl w7, .inl 3, .inr (.inr (some (84, 0)))], m6) (.inl (some (.inl r.1)), r.2, 0, 0)) hres (fun w7 hres => ?_) (fun k8 hk8 hres => ?_)
      · refine e_steps 1 (s' := (124, [some (.inr (.inr (some (12, 0)))), some (.inl a1), none, none, some (.inl v1)], [], (mm_w m6 84 0 3 w7))) rfl ?_
        refine e_let (fun (m9 : mm_M) => (124, [some (.inr (.inr (some (12, 0)))), some (.inl a1), none, none, some (.inl v1)], [], m9)) hres (fun m9 hres => ?_)
        refine e_steps 6 (s' := (134, [some (.inr (.inr (some (12, 0)))), some (.inl a1), none, none, some (.inl v1)], [.inl a1, .inr (.inr (some (72, 0))), .inl 4, .inr (.inr (some (84, 0)))], m9)) rfl ?_
        refine e_gd (s1 := (135, [some (.inr (.inr (some (12, 0)))), some (.inl a1), none, none, some (.inl v1)], [.inl (m9 72 0 a1.toNatClampNeg), .inl 4, .inr (.inr (some (84, 0)))], m9)) rfl hres (fun hc hres => ?_)
        refine e_steps 1 (s' := (136, [some (.inr (.inr (some (12, 0)))), some (.inl a1), none, none, some (.inl v1)], [], (mm_w m9 84 0 4 (m9 72 0 a1.toNatClampNeg)))) rfl ?_
        refine e_let (fun (m10 : mm_M) => (136, [some (.inr (.inr (some (12, 0)))), some (.inl a1), none, none, some (.inl v1)], [], m10)) hres (fun m10 hres => ?_)
        refine e_steps 4 (s' := (143, [some (.inr (.inr (some (12, 0)))), some (.inl a1), none, none, some (.inl v1)], [.inl v1, .inr (.inr (some (12, 0))), .inl 99999, .inl 0], m10)) rfl ?_
        obtain ⟨r11, m12, hv, hres⟩ := mm_b2_some hres
        refine e_call0 (pc := 146) (L := [some (.inr (.inr (some (12, 0)))), some (.inl a1), none, none, some (.inl v1)]) (st := [.inl 99999, .inl 0]) (m' := m12) (v := some (.inl r11)) rfl (k_X12_worked d (by omega) v1 _ _ hv) ?_
        show mm_E (d + 1) 186 (146, [some (.inr (.inr (some (12, 0)))), some (.inl a1), none, none, some (.inl v1)], [.inl r11, .inl 99999, .inl 0], m12) (.inl (some (.inl r.1)), r.2, 0, 0)
        refine e_steps 2 (s' := (152, [some (.inr (.inr (some (12, 0)))), some (.inl a1), none, none, some (.inl v1)], [.inl (mm_max 0 (mm_min 99999 r11))], m12)) rfl ?_
        obtain rfl := Option.some.inj hres
        exact e_ret rfl rfl
      · refine e_if (s1 := (113, [some (.inr (.inr (some (12, 0)))), some (.inl a1), none, none, some (.inl v1)], [.inl 3, .inr (.inr (some (84, 0)))], m6)) (s2 := (107, [some (.inr (.inr (some (12, 0)))), some (.inl a1), none, none, some (.inl v1)], [.inl 3, .inr (.inr (some (84, 0)))], m6)) rfl hres (fun hc hres => ?_) (fun hc hres => ?_)
        · refine e_steps 3 (s' := (118, [some (.inr (.inr (some (12, 0)))), some (.inl a1), none, none, some (.inl v1)], [.inl a1, .inr (.inr (some (70, 0))), .inl 3, .inr (.inr (some (84, 0)))], m6)) rfl ?_
          refine e_gd (s1 := (119, [some (.inr (.inr (some (12, 0)))), some (.inl a1), none, none, some (.inl v1)], [.inl (m6 70 0 a1.toNatClampNeg), .inl 3, .inr (.inr (some (84, 0)))], m6)) rfl hres (fun hc hres => ?_)
          refine e_steps 1 (s' := (123, [some (.inr (.inr (some (12, 0)))), some (.inl a1), none, none, some (.inl v1)], [.inl (m6 70 0 a1.toNatClampNeg), .inl 3, .inr (.inr (some (84, 0)))], m6)) rfl ?_
          exact e_mask (L' := [some (.inr (.inr (some (12, 0)))), some (.inl a1), none, none, some (.inl v1)]) rfl (hk8 _ hres)
        · refine e_steps 2 (s' := (110, [some (.inr (.inr (some (12, 0)))), some (.inl a1), none, none, some (.inl v1)], [.inl 3, .inl v1, .inl 3, .inr (.inr (some (84, 0)))], m6)) rfl ?_
          refine e_if (s1 := (122, [some (.inr (.inr (some (12, 0)))), some (.inl a1), none, none, some (.inl v1)], [.inl 3, .inr (.inr (some (84, 0)))], m6)) (s2 := (113, [some (.inr (.inr (some (12, 0)))), some (.inl a1), none, none, some (.inl v1)], [.inl 3, .inr (.inr (some (84, 0)))], m6)) rfl hres (fun hc hres => ?_) (fun hc hres => ?_)
          · refine e_steps 1 (s' := (123, [some (.inr (.inr (some (12, 0)))), some (.inl a1), none, none, some (.inl v1)], [.inl 0, .inl 3, .inr (.inr (some (84, 0)))], m6)) rfl ?_
            exact e_mask (L' := [some (.inr (.inr (some (12, 0)))), some (.inl a1), none, none, some (.inl v1)]) rfl (hk8 _ hres)
          · refine e_steps 3 (s' := (118, [some (.inr (.inr (some (12, 0)))), some (.inl a1), none, none, some (.inl v1)], [.inl a1, .inr (.inr (some (70, 0))), .inl 3, .inr (.inr (some (84, 0)))], m6)) rfl ?_
            refine e_gd (s1 := (119, [some (.inr (.inr (some (12, 0)))), some (.inl a1), none, none, some (.inl v1)], [.inl (m6 70 0 a1.toNatClampNeg), .inl 3, .inr (.inr (some (84, 0)))], m6)) rfl hres (fun hc hres => ?_)
            refine e_steps 1 (s' := (123, [some (.inr (.inr (some (12, 0)))), some (.inl a1), none, none, some (.inl v1)], [.inl (m6 70 0 a1.toNatClampNeg), .inl 3, .inr (.inr (some (84, 0)))], m6)) rfl ?_
            exact e_mask (L' := [some (.inr (.inr (some (12, 0)))), some (.inl a1), none, none, some (.inl v1)]) rfl (hk8 _ hres)
    · refine e_if (s1 := (94, [some (.inr (.inr (some (12, 0)))), some (.inl a1), some (.inl a2), some (.inl a3), some (.inl v1)], [.inl 2, .inr (.inr (some (84, 0)))], m3)) (s2 := (85, [some (.inr (.inr (some (12, 0)))), some (.inl a1), some (.inl a2), some (.inl a3), some (.inl v1)], [.inl 2, .inr (.inr (some (84, 0)))], m3)) rfl hres (fun hc hres => ?_) (fun hc hres => ?_)
      · refine e_steps 1 (s' := (95, [some (.inr (.inr (some (12, 0)))), some (.inl a1), some (.inl a2), some (.inl a3), some (.inl v1)], [.inl 0, .inl 2, .inr (.inr (some (84, 0)))], m3)) rfl ?_
        exact e_mask (L' := [some (.inr (.inr (some (12, 0)))), some (.inl a1), none, none, some (.inl v1)]) rfl (hk5 _ hres)
      · refine e_steps 3 (s' := (90, [some (.inr (.inr (some (12, 0)))), some (.inl a1), some (.inl a2), some (.inl a3), some (.inl v1)], [.inl a1, .inr (.inr (some (70, 0))), .inl 2, .inr (.inr (some (84, 0)))], m3)) rfl ?_
        refine e_gd (s1 := (91, [some (.inr (.inr (some (12, 0)))), some (.inl a1), some (.inl a2), some (.inl a3), some (.inl v1)], [.inl (m3 70 0 a1.toNatClampNeg), .inl 2, .inr (.inr (some (84, 0)))], m3)) rfl hres (fun hc hres => ?_)
        refine e_steps 1 (s' := (95, [some (.inr (.inr (some (12, 0)))), some (.inl a1), some (.inl a2), some (.inl a3), some (.inl v1)], [.inl (m3 70 0 a1.toNatClampNeg), .inl 2, .inr (.inr (some (84, 0)))], m3)) rfl ?_
        exact e_mask (L' := [some (.inr (.inr (some (12, 0)))), some (.inl a1), none, none, some (.inl v1)]) rfl (hk5 _ hres)
  · refine e_steps 1 (s' := (20, [some (.inr (.inr (some (12, 0)))), some (.inl a1), some (.inl a2), some (.inl a3), some (.inl v1)], [.inl v1], m)) rfl ?_
    refine e_if (s1 := (34, [some (.inr (.inr (some (12, 0)))), some (.inl a1), some (.inl a2), some (.inl a3), some (.inl v1)], [], m)) (s2 := (23, [some (.inr (.inr (some (12, 0)))), some (.inl a1), some (.inl a2), some (.inl a3), some (.inl v1)], [], m)) rfl hres (fun hc hres => ?_) (fun hc hres => ?_)
    · refine e_steps 2 (s' := (37, [some (.inr (.inr (some (12, 0)))), some (.inl a1), some (.inl a2), some (.inl a3), some (.inl v1)], [.inl 1, .inl v1], m)) rfl ?_
      refine e_if (s1 := (45, [some (.inr (.inr (some (12, 0)))), some (.inl a1), some (.inl a2), some (.inl a3), some (.inl v1)], [], m)) (s2 := (40, [some (.inr (.inr (some (12, 0)))), some (.inl a1), some (.inl a2), some (.inl a3), some (.inl v1)], [], m)) rfl hres (fun hc hres => ?_) (fun hc hres => ?_)
      · refine e_steps 2 (s' := (48, [some (.inr (.inr (some (12, 0)))), some (.inl a1), some (.inl a2), some (.inl a3), some (.inl v1)], [.inl 2, .inl v1], m)) rfl ?_
        refine e_if (s1 := (57, [some (.inr (.inr (some (12, 0)))), some (.inl a1), some (.inl a2), some (.inl a3), some (.inl v1)], [], m)) (s2 := (51, [some (.inr (.inr (some (12, 0)))), some (.inl a1), some (.inl a2), some (.inl a3), some (.inl v1)], [], m)) rfl hres (fun hc hres => ?_) (fun hc hres => ?_)
        · refine e_steps 1 (s' := (60, [some (.inr (.inr (some (12, 0)))), some (.inl a1), some (.inl a2), some (.inl a3), some (.inl v1)], [.inl 200], m)) rfl ?_
          refine e_mask (L' := [none, none, none, none, none]) rfl ?_
          obtain rfl := Option.some.inj hres
          exact e_ret rfl rfl
        · refine e_steps 2 (s' := (60, [some (.inr (.inr (some (12, 0)))), some (.inl a1), some (.inl a2), some (.inl a3), some (.inl v1)], [.inl 300], m)) rfl ?_
          refine e_mask (L' := [none, none, none, none, none]) rfl ?_
          obtain rfl := Option.some.inj hres
          exact e_ret rfl rfl
      · refine e_steps 2 (s' := (60, [some (.inr (.inr (some (12, 0)))), some (.inl a1), some (.inl a2), some (.inl a3), some (.inl v1)], [.inl 50], m)) rfl ?_
        refine e_mask (L' := [none, none, none, none, none]) rfl ?_
        obtain rfl := Option.some.inj hres
        exact e_ret rfl rfl
    · refine e_steps 4 (s' := (29, [some (.inr (.inr (some (12, 0)))), some (.inl a1), some (.inl a2), some (.inl a3), some (.inl v1)], [.inl a1, .inr (.inr (some (70, 0))), .inl 2], m)) rfl ?_
      refine e_gd (s1 := (30, [some (.inr (.inr (some (12, 0)))), some (.inl a1), some (.inl a2), some (.inl a3), some (.inl v1)], [.inl (m 70 0 a1.toNatClampNeg), .inl 2], m)) rfl hres (fun hc hres => ?_)
      refine e_steps 2 (s' := (60, [some (.inr (.inr (some (12, 0)))), some (.inl a1), some (.inl a2), some (.inl a3), some (.inl v1)], [.inl (2 * (m 70 0 a1.toNatClampNeg))], m)) rfl ?_
      refine e_mask (L' := [none, none, none, none, none]) rfl ?_
      obtain rfl := Option.some.inj hres
      exact e_ret rfl rfl
