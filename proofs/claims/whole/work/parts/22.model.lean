/-- GlassThreadsModel.go(IIIII)V -/
def f_X12_go : Nat → Int32 → Int32 → Int32 → Int32 → Int32 → mm_M → Option (mm_M)
  | 0 => fun _ _ _ _ _ _ => none
  | n + 1 => fun a1 a2 a3 a4 a5 m =>
if a1 ≠ a2 then ((mm_b1 (mm_loop (σ := Int32 × mm_M) (ρ := (mm_M)) (fun (s : Int32 × mm_M) => match s with
| (v2, m3) => (if (m3 12 0 77) ≤ v2 then (some (.inr m3))
else (if ((a5 >>> (v2 &&& 31)) &&& 1) = 1 then (mm_let (v2 + 1) fun v4 =>
some (.inl (v4, m3)))
else (if mm_in v2 10 then (
mm_let ((if mm_in v2 10 then (
mm_let (fun (w6 : Int32) => (if ((a3 >>> (w6 &&& 31)) &&& 1) ≠ 1 then (if mm_in a4 10 then (
mm_let (mm_w m3 123 0 a4.toNatClampNeg v2) fun m8 =>
mm_b1 (f_X12_go n w6 a2 (a3 ||| (1 <<< (w6 &&& 31))) (a4 + 1) a5 m8) fun m10 =>
mm_let (v2 + 1) fun v11 =>
some (.inl (v11, m10))) else none)
else (mm_let (v2 + 1) fun v12 =>
some (.inl (v12, m3))) : Option ((Int32 × mm_M) ⊕ ((mm_M))))) fun k7 =>
if (m3 112 0 v2.toNatClampNeg) ≠ a1 then (if mm_in v2 10 then (
k7 (m3 112 0 v2.toNatClampNeg)) else none)
else (if mm_in v2 10 then (
k7 (m3 113 0 v2.toNatClampNeg)) else none)) else none : Option ((Int32 × mm_M) ⊕ ((mm_M))))) fun k5 =>
if (m3 112 0 v2.toNatClampNeg) = a1 then (k5)
else (if mm_in v2 10 then (
if (m3 113 0 v2.toNatClampNeg) = a1 then (k5)
else (mm_let (v2 + 1) fun v13 =>
some (.inl (v13, m3)))) else none)) else none)) : Option ((Int32 × mm_M) ⊕ ((mm_M))))) mm_fu (0, m)) fun m14 =>
some m14))
else (if mm_in (m 12 0 79) 400 then (
mm_let (mm_w m 119 0 ((m 12 0 79).toNatClampNeg) 0) fun m15 =>
if mm_in (m15 12 0 79) 400 then (
mm_let (mm_w m15 122 0 ((m15 12 0 79).toNatClampNeg) 0) fun m16 =>
if mm_in (m16 12 0 79) 400 then (
mm_let (mm_w m16 120 0 ((m16 12 0 79).toNatClampNeg) a4) fun m17 =>
(mm_b1 (mm_loop (σ := Int32 × mm_M) (ρ := (mm_M)) (fun (s : Int32 × mm_M) => match s with
| (v19, m20) => (if a4 ≤ v19 then (some (.inr m20))
else (if mm_in v19 10 then (
if mm_in ((10 * (m20 12 0 79)) + v19) 4000 then (
mm_let (mm_w m20 121 0 (((10 * (m20 12 0 79)) + v19).toNatClampNeg) (m20 123 0 v19.toNatClampNeg)) fun m21 =>
if mm_in (m21 12 0 79) 400 then (
if mm_in v19 10 then (
if mm_in (m21 123 0 v19.toNatClampNeg) 10 then (
if mm_in (m21 12 0 79) 400 then (
mm_let (mm_w m21 119 0 ((m21 12 0 79).toNatClampNeg) ((m21 119 0 (m21 12 0 79).toNatClampNeg) + (m21 116 0 (m21 123 0 v19.toNatClampNeg).toNatClampNeg))) fun m22 =>
if mm_in (m22 12 0 79) 400 then (
if mm_in v19 10 then (
if mm_in (m22 12 0 79) 400 then (
mm_let (mm_w m22 122 0 ((m22 12 0 79).toNatClampNeg) ((m22 122 0 (m22 12 0 79).toNatClampNeg) ||| (1 <<< ((m22 123 0 v19.toNatClampNeg) &&& 31)))) fun m23 =>
mm_let (v19 + 1) fun v24 =>
some (.inl (v24, m23))) else none) else none) else none) else none) else none) else none) else none) else none) else none) : Option ((Int32 × mm_M) ⊕ ((mm_M))))) mm_fu (0, m17)) fun m25 =>
mm_let (mm_w m25 12 0 79 ((m25 12 0 79) + 1)) fun m26 =>
some m26)) else none) else none) else none)
set_option maxHeartbeats 4000000 in
set_option maxRecDepth 100000 in
theorem k_X12_go (n : Nat) : ∀ (d : Nat) (hd : 0 + 1 * n ≤ d) (a1 : Int32) (a2 : Int32) (a3 : Int32) (a4 : Int32) (a5 : Int32) (m : mm_M) (r : mm_M) (hres : f_X12_go n a1 a2 a3 a4 a5 m = some r), mm_X d 234 [.inr (.inr (some (12, 0))), .inl a1, .inl a2, .inl a3, .inl a4, .inl a5] m (.inl none, r, 0, 0) := by
  induction n with
  | zero => intro d hd a1 a2 a3 a4 a5 m r hres; cases hres
  | succ n ih =>
    intro d hd a1 a2 a3 a4 a5 m r hres
    have hRF : ∀ (a1 : Int32) (a2 : Int32) (a3 : Int32) (a4 : Int32) (a5 : Int32) (m : mm_M) (r : mm_M), f_X12_go n a1 a2 a3 a4 a5 m = some r → ∀ d, (0 + 1 * n) ≤ d → mm_X d 234 [.inr (.inr (some (12, 0))), .inl a1, .inl a2, .inl a3, .inl a4, .inl a5] m (.inl none, r, 0, 0) := fun a1 a2 a3 a4 a5 m r h d hd => ih d hd a1 a2 a3 a4 a5 m r h
    obtain ⟨d, rfl⟩ : ∃ e, d = e + 1 := ⟨d - 1, by omega⟩
    show mm_E (d + 1) 234 (0, [some (.inr (.inr (some (12, 0)))), some (.inl a1), some (.inl a2), some (.inl a3), some (.inl a4), some (.inl a5), none, none], [], m) (.inl none, r, 0, 0)
    refine e_steps 2 (s' := (2, [some (.inr (.inr (some (12, 0)))), some (.inl a1), some (.inl a2), some (.inl a3), some (.inl a4), some (.inl a5), none, none], [.inl a2, .inl a1], m)) rfl ?_
    refine e_if (s1 := (130, [some (.inr (.inr (some (12, 0)))), some (.inl a1), some (.inl a2), some (.inl a3), some (.inl a4), some (.inl a5), none, none], [], m)) (s2 := (5, [some (.inr (.inr (some (12, 0)))), some (.inl a1), some (.inl a2), some (.inl a3), some (.inl a4), some (.inl a5), none, none], [], m)) rfl hres (fun hc hres => ?_) (fun hc hres => ?_)
    · refine e_steps 2 (s' := (133, [some (.inr (.inr (some (12, 0)))), some (.inl a1), some (.inl a2), some (.inl a3), some (.inl a4), some (.inl a5), some (.inl 0), none], [], m)) rfl ?_
      refine e_mask (L' := [some (.inr (.inr (some (12, 0)))), some (.inl a1), some (.inl a2), some (.inl a3), some (.inl a4), some (.inl a5), some (.inl 0), none]) rfl ?_
      refine e_loopb (φ := fun s => (133, [some (.inr (.inr (some (12, 0)))), some (.inl a1), some (.inl a2), some (.inl a3), some (.inl a4), some (.inl a5), some (.inl s.1), none], [], s.2)) (K := fun t => mm_E (d + 1) 234 (255, [none, none, none, none, none, none, none, none], [], t) (.inl none, r, 0, 0)) hres (fun m14 hres => ?_) (fun s ol1 hres hcl1 hxl1 => ?_)
      · show mm_E (d + 1) 234 (255, [none, none, none, none, none, none, none, none], [], m14) (.inl none, r, 0, 0)
        obtain rfl := Option.some.inj hres
        exact e_ret rfl rfl
      · obtain ⟨v2, m3⟩ := s
        show mm_E (d + 1) 234 (133, [some (.inr (.inr (some (12, 0)))), some (.inl a1), some (.inl a2), some (.inl a3), some (.inl a4), some (.inl a5), some (.inl v2), none], [], m3) (.inl none, r, 0, 0)
        refine e_steps 3 (s' := (139, [some (.inr (.inr (some (12, 0)))), some (.inl a1), some (.inl a2), some (.inl a3), some (.inl a4), some (.inl a5), some (.inl v2), none], [.inl (m3 12 0 77), .inl v2], m3)) rfl ?_
        refine e_if (s1 := (255, [some (.inr (.inr (some (12, 0)))), some (.inl a1), some (.inl a2), some (.inl a3), some (.inl a4), some (.inl a5), some (.inl v2), none], [], m3)) (s2 := (142, [some (.inr (.inr (some (12, 0)))), some (.inl a1), some (.inl a2), some (.inl a3), some (.inl a4), some (.inl a5), some (.inl v2), none], [], m3)) rfl hres (fun hc hres => ?_) (fun hc hres => ?_)
        · obtain rfl := Option.some.inj hres
          exact e_mask (L' := [none, none, none, none, none, none, none, none]) rfl (hxl1 _ rfl)
        · refine e_steps 6 (s' := (150, [some (.inr (.inr (some (12, 0)))), some (.inl a1), some (.inl a2), some (.inl a3), some (.inl a4), some (.inl a5), some (.inl v2), none], [.inl 1, .inl ((a5 >>> (v2 &&& 31)) &&& 1)], m3)) rfl ?_
          refine e_if (s1 := (249, [some (.inr (.inr (some (12, 0)))), some (.inl a1), some (.inl a2), some (.inl a3), some (.inl a4), some (.inl a5), some (.inl v2), none], [], m3)) (s2 := (153, [some (.inr (.inr (some (12, 0)))), some (.inl a1), some (.inl a2), some (.inl a3), some (.inl a4), some (.inl a5), some (.inl v2), none], [], m3)) rfl hres (fun hc hres => ?_) (fun hc hres => ?_)
          · refine e_steps 1 (s' := (252, [some (.inr (.inr (some (12, 0)))), some (.inl a1), some (.inl a2), some (.inl a3), some (.inl a4), some (.inl a5), some (.inl (v2 + 1)), none], [], m3)) rfl ?_
            refine e_let (fun (v4 : Int32) => (252, [some (.inr (.inr (some (12, 0)))), some (.inl a1), some (.inl a2), some (.inl a3), some (.inl a4), some (.inl a5), some (.inl v4), none], [], m3)) hres (fun v4 hres => ?_)
            refine e_steps 1 (s' := (133, [some (.inr (.inr (some (12, 0)))), some (.inl a1), some (.inl a2), some (.inl a3), some (.inl a4), some (.inl a5), some (.inl v4), none], [], m3)) rfl ?_
            obtain rfl := Option.some.inj hres
            exact e_mask (L' := [some (.inr (.inr (some (12, 0)))), some (.inl a1), some (.inl a2), some (.inl a3), some (.inl a4), some (.inl a5), some (.inl v4), none]) rfl (hcl1 _ rfl)
          · refine e_steps 3 (s' := (159, [some (.inr (.inr (some (12, 0)))), some (.inl a1), some (.inl a2), some (.inl a3), some (.inl a4), some (.inl a5), some (.inl v2), none], [.inl v2, .inr (.inr (some (112, 0)))], m3)) rfl ?_
            refine e_gd (s1 := (160, [some (.inr (.inr (some (12, 0)))), some (.inl a1), some (.inl a2), some (.inl a3), some (.inl a4), some (.inl a5), some (.inl v2), none], [.inl (m3 112 0 v2.toNatClampNeg)], m3)) rfl hres (fun hc hres => ?_)
            refine e_steps 1 (s' := (161, [some (.inr (.inr (some (12, 0)))), some (.inl a1), some (.inl a2), some (.inl a3), some (.inl a4), some (.inl a5), some (.inl v2), none], [.inl a1, .inl (m3 112 0 v2.toNatClampNeg)], m3)) rfl ?_
            refine e_join (fun k5 => k5 = some ol1 → mm_E (d + 1) 234 (178, [some (.inr (.inr (some (12, 0)))), some (.inl a1), some (.inl a2), some (.inl a3), some (.inl a4), some (.inl a5), some (.inl v2), none], [], m3) (.inl none, r, 0, 0)) hres (fun  hres => ?_) (fun k5 hk5 hres => ?_)
            · refine e_steps 3 (s' := (184, [some (.inr (.inr (some (12, 0)))), some (.inl a1), some (.inl a2), some (.inl a3), some (.inl a4), some (.inl a5), some (.inl v2), none], [.inl v2, .inr (.inr (some (112, 0)))], m3)) rfl ?_
              refine e_gd (s1 := (185, [some (.inr (.inr (some (12, 0)))), some (.inl a1), some (.inl a2), some (.inl a3), some (.inl a4), some (.inl a5), some (.inl v2), none], [.inl (m3 112 0 v2.toNatClampNeg)], m3)) rfl hres (fun hc hres => ?_)
              refine e_steps 1 (s' := (186, [some (.inr (.inr (some (12, 0)))), some (.inl a1), some (.inl a2), some (.inl a3), some (.inl a4), some (.inl a5), some (.inl v2), none], [.inl a1, .inl (m3 112 0 v2.toNatClampNeg)], m3)) rfl ?_
              refine e_join (fun k7 => ∀ (w6 : Int32), k7 w6 = some ol1 → mm_E (d + 1) 234 (206, [some (.inr (.inr (some (12, 0)))), some (.inl a1), some (.inl a2), some (.inl a3), some (.inl a4), some (.inl a5), some (.inl v2), none], [.inl w6], m3) (.inl none, r, 0, 0)) hres (fun w6 hres => ?_) (fun k7 hk7 hres => ?_)
              · refine e_steps 7 (s' := (215, [some (.inr (.inr (some (12, 0)))), some (.inl a1), some (.inl a2), some (.inl a3), some (.inl a4), some (.inl a5), some (.inl v2), some (.inl w6)], [.inl 1, .inl ((a3 >>> (w6 &&& 31)) &&& 1)], m3)) rfl ?_
                refine e_if (s1 := (221, [some (.inr (.inr (some (12, 0)))), some (.inl a1), some (.inl a2), some (.inl a3), some (.inl a4), some (.inl a5), some (.inl v2), some (.inl w6)], [], m3)) (s2 := (218, [some (.inr (.inr (some (12, 0)))), some (.inl a1), some (.inl a2), some (.inl a3), some (.inl a4), some (.inl a5), some (.inl v2), some (.inl w6)], [], m3)) rfl hres (fun hc hres => ?_) (fun hc hres => ?_)
                · refine e_steps 4 (s' := (229, [some (.inr (.inr (some (12, 0)))), some (.inl a1), some (.inl a2), some (.inl a3), some (.inl a4), some (.inl a5), some (.inl v2), some (.inl w6)], [.inl v2, .inl a4, .inr (.inr (some (123, 0)))], m3)) rfl ?_
                  refine e_gd (s1 := (230, [some (.inr (.inr (some (12, 0)))), some (.inl a1), some (.inl a2), some (.inl a3), some (.inl a4), some (.inl a5), some (.inl v2), some (.inl w6)], [], (mm_w m3 123 0 a4.toNatClampNeg v2))) rfl hres (fun hc hres => ?_)
                  refine e_let (fun (m8 : mm_M) => (230, [some (.inr (.inr (some (12, 0)))), some (.inl a1), some (.inl a2), some (.inl a3), some (.inl a4), some (.inl a5), some (.inl v2), some (.inl w6)], [], m8)) hres (fun m8 hres => ?_)
                  refine e_steps 12 (s' := (246, [some (.inr (.inr (some (12, 0)))), some (.inl a1), some (.inl a2), some (.inl a3), some (.inl a4), some (.inl a5), some (.inl v2), some (.inl w6)], [.inl a5, .inl (a4 + 1), .inl (a3 ||| (1 <<< (w6 &&& 31))), .inl a2, .inl w6, .inr (.inr (some (12, 0)))], m8)) rfl ?_
                  obtain ⟨m10, hv, hres⟩ := mm_b1_some hres
                  refine e_call0 (pc := 249) (L := [some (.inr (.inr (some (12, 0)))), some (.inl a1), some (.inl a2), some (.inl a3), some (.inl a4), some (.inl a5), some (.inl v2), some (.inl w6)]) (st := []) (m' := m10) (v := none) rfl (hRF w6 a2 (a3 ||| (1 <<< (w6 &&& 31))) (a4 + 1) a5 _ _ hv d (by omega)) ?_
                  show mm_E (d + 1) 234 (249, [some (.inr (.inr (some (12, 0)))), some (.inl a1), some (.inl a2), some (.inl a3), some (.inl a4), some (.inl a5), some (.inl v2), some (.inl w6)], [], m10) (.inl none, r, 0, 0)
                  refine e_mask (L' := [some (.inr (.inr (some (12, 0)))), some (.inl a1), some (.inl a2), some (.inl a3), some (.inl a4), some (.inl a5), some (.inl v2), none]) rfl ?_
                  refine e_steps 1 (s' := (252, [some (.inr (.inr (some (12, 0)))), some (.inl a1), some (.inl a2), some (.inl a3), some (.inl a4), some (.inl a5), some (.inl (v2 + 1)), none], [], m10)) rfl ?_
                  refine e_let (fun (v11 : Int32) => (252, [some (.inr (.inr (some (12, 0)))), some (.inl a1), some (.inl a2), some (.inl a3), some (.inl a4), some (.inl a5), some (.inl v11), none], [], m10)) hres (fun v11 hres => ?_)
                  refine e_steps 1 (s' := (133, [some (.inr (.inr (some (12, 0)))), some (.inl a1), some (.inl a2), some (.inl a3), some (.inl a4), some (.inl a5), some (.inl v11), none], [], m10)) rfl ?_
                  obtain rfl := Option.some.inj hres
                  exact e_mask (L' := [some (.inr (.inr (some (12, 0)))), some (.inl a1), some (.inl a2), some (.inl a3), some (.inl a4), some (.inl a5), some (.inl v11), none]) rfl (hcl1 _ rfl)
                · refine e_steps 1 (s' := (249, [some (.inr (.inr (some (12, 0)))), some (.inl a1), some (.inl a2), some (.inl a3), some (.inl a4), some (.inl a5), some (.inl v2), some (.inl w6)], [], m3)) rfl ?_
                  refine e_mask (L' := [some (.inr (.inr (some (12, 0)))), some (.inl a1), some (.inl a2), some (.inl a3), some (.inl a4), some (.inl a5), some (.inl v2), none]) rfl ?_
                  refine e_steps 1 (s' := (252, [some (.inr (.inr (some (12, 0)))), some (.inl a1), some (.inl a2), some (.inl a3), some (.inl a4), some (.inl a5), some (.inl (v2 + 1)), none], [], m3)) rfl ?_
                  refine e_let (fun (v12 : Int32) => (252, [some (.inr (.inr (some (12, 0)))), some (.inl a1), some (.inl a2), some (.inl a3), some (.inl a4), some (.inl a5), some (.inl v12), none], [], m3)) hres (fun v12 hres => ?_)
                  refine e_steps 1 (s' := (133, [some (.inr (.inr (some (12, 0)))), some (.inl a1), some (.inl a2), some (.inl a3), some (.inl a4), some (.inl a5), some (.inl v12), none], [], m3)) rfl ?_
                  obtain rfl := Option.some.inj hres
                  exact e_mask (L' := [some (.inr (.inr (some (12, 0)))), some (.inl a1), some (.inl a2), some (.inl a3), some (.inl a4), some (.inl a5), some (.inl v12), none]) rfl (hcl1 _ rfl)
              · refine e_if (s1 := (199, [some (.inr (.inr (some (12, 0)))), some (.inl a1), some (.inl a2), some (.inl a3), some (.inl a4), some (.inl a5), some (.inl v2), none], [], m3)) (s2 := (189, [some (.inr (.inr (some (12, 0)))), some (.inl a1), some (.inl a2), some (.inl a3), some (.inl a4), some (.inl a5), some (.inl v2), none], [], m3)) rfl hres (fun hc hres => ?_) (fun hc hres => ?_)
                · refine e_steps 3 (s' := (205, [some (.inr (.inr (some (12, 0)))), some (.inl a1), some (.inl a2), some (.inl a3), some (.inl a4), some (.inl a5), some (.inl v2), none], [.inl v2, .inr (.inr (some (112, 0)))], m3)) rfl ?_
                  refine e_gd (s1 := (206, [some (.inr (.inr (some (12, 0)))), some (.inl a1), some (.inl a2), some (.inl a3), some (.inl a4), some (.inl a5), some (.inl v2), none], [.inl (m3 112 0 v2.toNatClampNeg)], m3)) rfl hres (fun hc hres => ?_)
                  exact e_mask (L' := [some (.inr (.inr (some (12, 0)))), some (.inl a1), some (.inl a2), some (.inl a3), some (.inl a4), some (.inl a5), some (.inl v2), none]) rfl (hk7 _ hres)
                · refine e_steps 3 (s' := (195, [some (.inr (.inr (some (12, 0)))), some (.inl a1), some (.inl a2), some (.inl a3), some (.inl a4), some (.inl a5), some (.inl v2), none], [.inl v2, .inr (.inr (some (113, 0)))], m3)) rfl ?_
                  refine e_gd (s1 := (196, [some (.inr (.inr (some (12, 0)))), some (.inl a1), some (.inl a2), some (.inl a3), some (.inl a4), some (.inl a5), some (.inl v2), none], [.inl (m3 113 0 v2.toNatClampNeg)], m3)) rfl hres (fun hc hres => ?_)
                  refine e_steps 1 (s' := (206, [some (.inr (.inr (some (12, 0)))), some (.inl a1), some (.inl a2), some (.inl a3), some (.inl a4), some (.inl a5), some (.inl v2), none], [.inl (m3 113 0 v2.toNatClampNeg)], m3)) rfl ?_
                  exact e_mask (L' := [some (.inr (.inr (some (12, 0)))), some (.inl a1), some (.inl a2), some (.inl a3), some (.inl a4), some (.inl a5), some (.inl v2), none]) rfl (hk7 _ hres)
            · refine e_if (s1 := (178, [some (.inr (.inr (some (12, 0)))), some (.inl a1), some (.inl a2), some (.inl a3), some (.inl a4), some (.inl a5), some (.inl v2), none], [], m3)) (s2 := (164, [some (.inr (.inr (some (12, 0)))), some (.inl a1), some (.inl a2), some (.inl a3), some (.inl a4), some (.inl a5), some (.inl v2), none], [], m3)) rfl hres (fun hc hres => ?_) (fun hc hres => ?_)
              · exact e_mask (L' := [some (.inr (.inr (some (12, 0)))), some (.inl a1), some (.inl a2), some (.inl a3), some (.inl a4), some (.inl a5), some (.inl v2), none]) rfl (hk5  hres)
              · refine e_steps 3 (s' := (170, [some (.inr (.inr (some (12, 0)))), some (.inl a1), some (.inl a2), some (.inl a3), some (.inl a4), some (.inl a5), some (.inl v2), none], [.inl v2, .inr (.inr (some (113, 0)))], m3)) rfl ?_
                refine e_gd (s1 := (171, [some (.inr (.inr (some (12, 0)))), some (.inl a1), some (.inl a2), some (.inl a3), some (.inl a4), some (.inl a5), some (.inl v2), none], [.inl (m3 113 0 v2.toNatClampNeg)], m3)) rfl hres (fun hc hres => ?_)
                refine e_steps 1 (s' := (172, [some (.inr (.inr (some (12, 0)))), some (.inl a1), some (.inl a2), some (.inl a3), some (.inl a4), some (.inl a5), some (.inl v2), none], [.inl a1, .inl (m3 113 0 v2.toNatClampNeg)], m3)) rfl ?_
                refine e_if (s1 := (178, [some (.inr (.inr (some (12, 0)))), some (.inl a1), some (.inl a2), some (.inl a3), some (.inl a4), some (.inl a5), some (.inl v2), none], [], m3)) (s2 := (175, [some (.inr (.inr (some (12, 0)))), some (.inl a1), some (.inl a2), some (.inl a3), some (.inl a4), some (.inl a5), some (.inl v2), none], [], m3)) rfl hres (fun hc hres => ?_) (fun hc hres => ?_)
                · exact e_mask (L' := [some (.inr (.inr (some (12, 0)))), some (.inl a1), some (.inl a2), some (.inl a3), some (.inl a4), some (.inl a5), some (.inl v2), none]) rfl (hk5  hres)
                · refine e_steps 2 (s' := (252, [some (.inr (.inr (some (12, 0)))), some (.inl a1), some (.inl a2), some (.inl a3), some (.inl a4), some (.inl a5), some (.inl (v2 + 1)), none], [], m3)) rfl ?_
                  refine e_let (fun (v13 : Int32) => (252, [some (.inr (.inr (some (12, 0)))), some (.inl a1), some (.inl a2), some (.inl a3), some (.inl a4), some (.inl a5), some (.inl v13), none], [], m3)) hres (fun v13 hres => ?_)
                  refine e_steps 1 (s' := (133, [some (.inr (.inr (some (12, 0)))), some (.inl a1), some (.inl a2), some (.inl a3), some (.inl a4), some (.inl a5), some (.inl v13), none], [], m3)) rfl ?_
                  obtain rfl := Option.some.inj hres
                  exact e_mask (L' := [some (.inr (.inr (some (12, 0)))), some (.inl a1), some (.inl a2), some (.inl a3), some (.inl a4), some (.inl a5), some (.inl v13), none]) rfl (hcl1 _ rfl)
    · refine e_steps 5 (s' := (14, [some (.inr (.inr (some (12, 0)))), some (.inl a1), some (.inl a2), some (.inl a3), some (.inl a4), some (.inl a5), none, none], [.inl 0, .inl (m 12 0 79), .inr (.inr (some (119, 0)))], m)) rfl ?_
      refine e_gd (s1 := (15, [some (.inr (.inr (some (12, 0)))), some (.inl a1), some (.inl a2), some (.inl a3), some (.inl a4), some (.inl a5), none, none], [], (mm_w m 119 0 ((m 12 0 79).toNatClampNeg) 0))) rfl hres (fun hc hres => ?_)
      refine e_let (fun (m15 : mm_M) => (15, [some (.inr (.inr (some (12, 0)))), some (.inl a1), some (.inl a2), some (.inl a3), some (.inl a4), some (.inl a5), none, none], [], m15)) hres (fun m15 hres => ?_)
      refine e_steps 5 (s' := (24, [some (.inr (.inr (some (12, 0)))), some (.inl a1), some (.inl a2), some (.inl a3), some (.inl a4), some (.inl a5), none, none], [.inl 0, .inl (m15 12 0 79), .inr (.inr (some (122, 0)))], m15)) rfl ?_
      refine e_gd (s1 := (25, [some (.inr (.inr (some (12, 0)))), some (.inl a1), some (.inl a2), some (.inl a3), some (.inl a4), some (.inl a5), none, none], [], (mm_w m15 122 0 ((m15 12 0 79).toNatClampNeg) 0))) rfl hres (fun hc hres => ?_)
      refine e_let (fun (m16 : mm_M) => (25, [some (.inr (.inr (some (12, 0)))), some (.inl a1), some (.inl a2), some (.inl a3), some (.inl a4), some (.inl a5), none, none], [], m16)) hres (fun m16 hres => ?_)
      refine e_steps 5 (s' := (35, [some (.inr (.inr (some (12, 0)))), some (.inl a1), some (.inl a2), some (.inl a3), some (.inl a4), some (.inl a5), none, none], [.inl a4, .inl (m16 12 0 79), .inr (.inr (some (120, 0)))], m16)) rfl ?_
      refine e_gd (s1 := (36, [some (.inr (.inr (some (12, 0)))), some (.inl a1), some (.inl a2), some (.inl a3), some (.inl a4), some (.inl a5), none, none], [], (mm_w m16 120 0 ((m16 12 0 79).toNatClampNeg) a4))) rfl hres (fun hc hres => ?_)
      refine e_let (fun (m17 : mm_M) => (36, [some (.inr (.inr (some (12, 0)))), some (.inl a1), some (.inl a2), some (.inl a3), some (.inl a4), some (.inl a5), none, none], [], m17)) hres (fun m17 hres => ?_)
      refine e_steps 2 (s' := (39, [some (.inr (.inr (some (12, 0)))), some (.inl a1), some (.inl a2), some (.inl a3), some (.inl a4), some (.inl a5), some (.inl 0), none], [], m17)) rfl ?_
      refine e_mask (L' := [some (.inr (.inr (some (12, 0)))), none, none, none, some (.inl a4), none, some (.inl 0), none]) rfl ?_
      refine e_loopb (φ := fun s => (39, [some (.inr (.inr (some (12, 0)))), none, none, none, some (.inl a4), none, some (.inl s.1), none], [], s.2)) (K := fun t => mm_E (d + 1) 234 (119, [some (.inr (.inr (some (12, 0)))), none, none, none, none, none, none, none], [], t) (.inl none, r, 0, 0)) hres (fun m25 hres => ?_) (fun s ol18 hres hcl18 hxl18 => ?_)
      · show mm_E (d + 1) 234 (119, [some (.inr (.inr (some (12, 0)))), none, none, none, none, none, none, none], [], m25) (.inl none, r, 0, 0)
        refine e_steps 6 (s' := (129, [some (.inr (.inr (some (12, 0)))), none, none, none, none, none, none, none], [], (mm_w m25 12 0 79 ((m25 12 0 79) + 1)))) rfl ?_
        refine e_let (fun (m26 : mm_M) => (129, [some (.inr (.inr (some (12, 0)))), none, none, none, none, none, none, none], [], m26)) hres (fun m26 hres => ?_)
        obtain rfl := Option.some.inj hres
        exact e_ret rfl rfl
      · obtain ⟨v19, m20⟩ := s
        show mm_E (d + 1) 234 (39, [some (.inr (.inr (some (12, 0)))), none, none, none, some (.inl a4), none, some (.inl v19), none], [], m20) (.inl none, r, 0, 0)
        refine e_steps 2 (s' := (43, [some (.inr (.inr (some (12, 0)))), none, none, none, some (.inl a4), none, some (.inl v19), none], [.inl a4, .inl v19], m20)) rfl ?_
        refine e_if (s1 := (119, [some (.inr (.inr (some (12, 0)))), none, none, none, some (.inl a4), none, some (.inl v19), none], [], m20)) (s2 := (46, [some (.inr (.inr (some (12, 0)))), none, none, none, some (.inl a4), none, some (.inl v19), none], [], m20)) rfl hres (fun hc hres => ?_) (fun hc hres => ?_)
        · obtain rfl := Option.some.inj hres
          exact e_mask (L' := [some (.inr (.inr (some (12, 0)))), none, none, none, none, none, none, none]) rfl (hxl18 _ rfl)
        · refine e_steps 11 (s' := (66, [some (.inr (.inr (some (12, 0)))), none, none, none, some (.inl a4), none, some (.inl v19), none], [.inl v19, .inr (.inr (some (123, 0))), .inl ((10 * (m20 12 0 79)) + v19), .inr (.inr (some (121, 0)))], m20)) rfl ?_
          refine e_gd (s1 := (67, [some (.inr (.inr (some (12, 0)))), none, none, none, some (.inl a4), none, some (.inl v19), none], [.inl (m20 123 0 v19.toNatClampNeg), .inl ((10 * (m20 12 0 79)) + v19), .inr (.inr (some (121, 0)))], m20)) rfl hres (fun hc hres => ?_)
          refine e_gd (s1 := (68, [some (.inr (.inr (some (12, 0)))), none, none, none, some (.inl a4), none, some (.inl v19), none], [], (mm_w m20 121 0 (((10 * (m20 12 0 79)) + v19).toNatClampNeg) (m20 123 0 v19.toNatClampNeg)))) rfl hres (fun hc hres => ?_)
          refine e_let (fun (m21 : mm_M) => (68, [some (.inr (.inr (some (12, 0)))), none, none, none, some (.inl a4), none, some (.inl v19), none], [], m21)) hres (fun m21 hres => ?_)
          refine e_steps 5 (s' := (77, [some (.inr (.inr (some (12, 0)))), none, none, none, some (.inl a4), none, some (.inl v19), none], [.inl (m21 12 0 79), .inr (.inr (some (119, 0))), .inl (m21 12 0 79), .inr (.inr (some (119, 0)))], m21)) rfl ?_
          refine e_gd (s1 := (78, [some (.inr (.inr (some (12, 0)))), none, none, none, some (.inl a4), none, some (.inl v19), none], [.inl (m21 119 0 (m21 12 0 79).toNatClampNeg), .inl (m21 12 0 79), .inr (.inr (some (119, 0)))], m21)) rfl hres (fun hc hres => ?_)
          refine e_steps 5 (s' := (88, [some (.inr (.inr (some (12, 0)))), none, none, none, some (.inl a4), none, some (.inl v19), none], [.inl v19, .inr (.inr (some (123, 0))), .inr (.inr (some (116, 0))), .inl (m21 119 0 (m21 12 0 79).toNatClampNeg), .inl (m21 12 0 79), .inr (.inr (some (119, 0)))], m21)) rfl ?_
          refine e_gd (s1 := (89, [some (.inr (.inr (some (12, 0)))), none, none, none, some (.inl a4), none, some (.inl v19), none], [.inl (m21 123 0 v19.toNatClampNeg), .inr (.inr (some (116, 0))), .inl (m21 119 0 (m21 12 0 79).toNatClampNeg), .inl (m21 12 0 79), .inr (.inr (some (119, 0)))], m21)) rfl hres (fun hc hres => ?_)
          refine e_gd (s1 := (90, [some (.inr (.inr (some (12, 0)))), none, none, none, some (.inl a4), none, some (.inl v19), none], [.inl (m21 116 0 (m21 123 0 v19.toNatClampNeg).toNatClampNeg), .inl (m21 119 0 (m21 12 0 79).toNatClampNeg), .inl (m21 12 0 79), .inr (.inr (some (119, 0)))], m21)) rfl hres (fun hc hres => ?_)
          refine e_steps 1 (s' := (91, [some (.inr (.inr (some (12, 0)))), none, none, none, some (.inl a4), none, some (.inl v19), none], [.inl ((m21 119 0 (m21 12 0 79).toNatClampNeg) + (m21 116 0 (m21 123 0 v19.toNatClampNeg).toNatClampNeg)), .inl (m21 12 0 79), .inr (.inr (some (119, 0)))], m21)) rfl ?_
          refine e_gd (s1 := (92, [some (.inr (.inr (some (12, 0)))), none, none, none, some (.inl a4), none, some (.inl v19), none], [], (mm_w m21 119 0 ((m21 12 0 79).toNatClampNeg) ((m21 119 0 (m21 12 0 79).toNatClampNeg) + (m21 116 0 (m21 123 0 v19.toNatClampNeg).toNatClampNeg))))) rfl hres (fun hc hres => ?_)
          refine e_let (fun (m22 : mm_M) => (92, [some (.inr (.inr (some (12, 0)))), none, none, none, some (.inl a4), none, some (.inl v19), none], [], m22)) hres (fun m22 hres => ?_)
          refine e_steps 5 (s' := (101, [some (.inr (.inr (some (12, 0)))), none, none, none, some (.inl a4), none, some (.inl v19), none], [.inl (m22 12 0 79), .inr (.inr (some (122, 0))), .inl (m22 12 0 79), .inr (.inr (some (122, 0)))], m22)) rfl ?_
          refine e_gd (s1 := (102, [some (.inr (.inr (some (12, 0)))), none, none, none, some (.inl a4), none, some (.inl v19), none], [.inl (m22 122 0 (m22 12 0 79).toNatClampNeg), .inl (m22 12 0 79), .inr (.inr (some (122, 0)))], m22)) rfl hres (fun hc hres => ?_)
          refine e_steps 4 (s' := (109, [some (.inr (.inr (some (12, 0)))), none, none, none, some (.inl a4), none, some (.inl v19), none], [.inl v19, .inr (.inr (some (123, 0))), .inl 1, .inl (m22 122 0 (m22 12 0 79).toNatClampNeg), .inl (m22 12 0 79), .inr (.inr (some (122, 0)))], m22)) rfl ?_
          refine e_gd (s1 := (110, [some (.inr (.inr (some (12, 0)))), none, none, none, some (.inl a4), none, some (.inl v19), none], [.inl (m22 123 0 v19.toNatClampNeg), .inl 1, .inl (m22 122 0 (m22 12 0 79).toNatClampNeg), .inl (m22 12 0 79), .inr (.inr (some (122, 0)))], m22)) rfl hres (fun hc hres => ?_)
          refine e_steps 2 (s' := (112, [some (.inr (.inr (some (12, 0)))), none, none, none, some (.inl a4), none, some (.inl v19), none], [.inl ((m22 122 0 (m22 12 0 79).toNatClampNeg) ||| (1 <<< ((m22 123 0 v19.toNatClampNeg) &&& 31))), .inl (m22 12 0 79), .inr (.inr (some (122, 0)))], m22)) rfl ?_
          refine e_gd (s1 := (113, [some (.inr (.inr (some (12, 0)))), none, none, none, some (.inl a4), none, some (.inl v19), none], [], (mm_w m22 122 0 ((m22 12 0 79).toNatClampNeg) ((m22 122 0 (m22 12 0 79).toNatClampNeg) ||| (1 <<< ((m22 123 0 v19.toNatClampNeg) &&& 31)))))) rfl hres (fun hc hres => ?_)
          refine e_let (fun (m23 : mm_M) => (113, [some (.inr (.inr (some (12, 0)))), none, none, none, some (.inl a4), none, some (.inl v19), none], [], m23)) hres (fun m23 hres => ?_)
          refine e_steps 1 (s' := (116, [some (.inr (.inr (some (12, 0)))), none, none, none, some (.inl a4), none, some (.inl (v19 + 1)), none], [], m23)) rfl ?_
          refine e_let (fun (v24 : Int32) => (116, [some (.inr (.inr (some (12, 0)))), none, none, none, some (.inl a4), none, some (.inl v24), none], [], m23)) hres (fun v24 hres => ?_)
          refine e_steps 1 (s' := (39, [some (.inr (.inr (some (12, 0)))), none, none, none, some (.inl a4), none, some (.inl v24), none], [], m23)) rfl ?_
          obtain rfl := Option.some.inj hres
          exact e_mask (L' := [some (.inr (.inr (some (12, 0)))), none, none, none, some (.inl a4), none, some (.inl v24), none]) rfl (hcl18 _ rfl)
/-- GlassThreadsModel.tellWays(III)V -/
def f_X12_tellWays (a1 : Int32) (a2 : Int32) (a3 : Int32) (m : mm_M) : Option (mm_M) :=
mm_let (mm_w m 12 0 79 0) fun m1 =>
mm_b1 (f_X12_go 16 a1 a2 (1 <<< (a1 &&& 31)) 0 a3 m1) fun m3 =>
some m3
set_option maxHeartbeats 4000000 in
set_option maxRecDepth 100000 in
theorem k_X12_tellWays (d : Nat) (hd : 17 ≤ d) (a1 : Int32) (a2 : Int32) (a3 : Int32) (m : mm_M) (r : mm_M) (hres : f_X12_tellWays a1 a2 a3 m = some r) : mm_X d 235 [.inr (.inr (some (12, 0))), .inl a1, .inl a2, .inl a3] m (.inl none, r, 0, 0) := by
  unfold f_X12_tellWays at hres
  obtain ⟨d, rfl⟩ : ∃ e, d = e + 1 := ⟨d - 1, by omega⟩
  show mm_E (d + 1) 235 (0, [some (.inr (.inr (some (12, 0)))), some (.inl a1), some (.inl a2), some (.inl a3)], [], m) (.inl none, r, 0, 0)
  refine e_steps 3 (s' := (5, [some (.inr (.inr (some (12, 0)))), some (.inl a1), some (.inl a2), some (.inl a3)], [], (mm_w m 12 0 79 0))) rfl ?_
  refine e_let (fun (m1 : mm_M) => (5, [some (.inr (.inr (some (12, 0)))), some (.inl a1), some (.inl a2), some (.inl a3)], [], m1)) hres (fun m1 hres => ?_)
  refine e_steps 8 (s' := (13, [some (.inr (.inr (some (12, 0)))), some (.inl a1), some (.inl a2), some (.inl a3)], [.inl a3, .inl 0, .inl (1 <<< (a1 &&& 31)), .inl a2, .inl a1, .inr (.inr (some (12, 0)))], m1)) rfl ?_
  obtain ⟨m3, hv, hres⟩ := mm_b1_some hres
  refine e_call0 (pc := 16) (L := [some (.inr (.inr (some (12, 0)))), some (.inl a1), some (.inl a2), some (.inl a3)]) (st := []) (m' := m3) (v := none) rfl (k_X12_go 16 d (by omega) a1 a2 (1 <<< (a1 &&& 31)) 0 a3 _ _ hv) ?_
  show mm_E (d + 1) 235 (16, [some (.inr (.inr (some (12, 0)))), some (.inl a1), some (.inl a2), some (.inl a3)], [], m3) (.inl none, r, 0, 0)
  obtain rfl := Option.some.inj hres
  exact e_ret rfl rfl
/-- GlassThreadsModel.isAhead(II)Z -/
def f_X12_isAhead (a1 : Int32) (a2 : Int32) (m : mm_M) : Option (Int32) :=
if mm_in a1 400 then (
if mm_in a2 400 then (
if (m 119 0 a1.toNatClampNeg) = (m 119 0 a2.toNatClampNeg) then (if mm_in a1 400 then (
if mm_in a2 400 then (
if (m 120 0 a1.toNatClampNeg) = (m 120 0 a2.toNatClampNeg) then (if a2 ≤ a1 then (some 0)
else (some 1))
else (if mm_in a1 400 then (
if mm_in a2 400 then (
if (m 120 0 a2.toNatClampNeg) ≤ (m 120 0 a1.toNatClampNeg) then (some 0)
else (some 1)) else none) else none)) else none) else none)
else (if mm_in a1 400 then (
if mm_in a2 400 then (
if (m 119 0 a2.toNatClampNeg) ≤ (m 119 0 a1.toNatClampNeg) then (some 0)
else (some 1)) else none) else none)) else none) else none
set_option maxHeartbeats 4000000 in
set_option maxRecDepth 100000 in
theorem k_X12_isAhead (d : Nat) (hd : 0 ≤ d) (a1 : Int32) (a2 : Int32) (m : mm_M) (r : Int32) (hres : f_X12_isAhead a1 a2 m = some r) : mm_X d 236 [.inr (.inr (some (12, 0))), .inl a1, .inl a2] m (.inl (some (.inl r)), m, 0, 0) := by
  unfold f_X12_isAhead at hres
  show mm_E d 236 (0, [some (.inr (.inr (some (12, 0)))), some (.inl a1), some (.inl a2)], [], m) (.inl (some (.inl r)), m, 0, 0)
  refine e_steps 3 (s' := (5, [some (.inr (.inr (some (12, 0)))), some (.inl a1), some (.inl a2)], [.inl a1, .inr (.inr (some (119, 0)))], m)) rfl ?_
  refine e_gd (s1 := (6, [some (.inr (.inr (some (12, 0)))), some (.inl a1), some (.inl a2)], [.inl (m 119 0 a1.toNatClampNeg)], m)) rfl hres (fun hc hres => ?_)
  refine e_steps 3 (s' := (11, [some (.inr (.inr (some (12, 0)))), some (.inl a1), some (.inl a2)], [.inl a2, .inr (.inr (some (119, 0))), .inl (m 119 0 a1.toNatClampNeg)], m)) rfl ?_
  refine e_gd (s1 := (12, [some (.inr (.inr (some (12, 0)))), some (.inl a1), some (.inl a2)], [.inl (m 119 0 a2.toNatClampNeg), .inl (m 119 0 a1.toNatClampNeg)], m)) rfl hres (fun hc hres => ?_)
  refine e_if (s1 := (36, [some (.inr (.inr (some (12, 0)))), some (.inl a1), some (.inl a2)], [], m)) (s2 := (15, [some (.inr (.inr (some (12, 0)))), some (.inl a1), some (.inl a2)], [], m)) rfl hres (fun hc hres => ?_) (fun hc hres => ?_)
  · refine e_steps 3 (s' := (41, [some (.inr (.inr (some (12, 0)))), some (.inl a1), some (.inl a2)], [.inl a1, .inr (.inr (some (120, 0)))], m)) rfl ?_
    refine e_gd (s1 := (42, [some (.inr (.inr (some (12, 0)))), some (.inl a1), some (.inl a2)], [.inl (m 120 0 a1.toNatClampNeg)], m)) rfl hres (fun hc hres => ?_)
    refine e_steps 3 (s' := (47, [some (.inr (.inr (some (12, 0)))), some (.inl a1), some (.inl a2)], [.inl a2, .inr (.inr (some (120, 0))), .inl (m 120 0 a1.toNatClampNeg)], m)) rfl ?_
    refine e_gd (s1 := (48, [some (.inr (.inr (some (12, 0)))), some (.inl a1), some (.inl a2)], [.inl (m 120 0 a2.toNatClampNeg), .inl (m 120 0 a1.toNatClampNeg)], m)) rfl hres (fun hc hres => ?_)
    refine e_if (s1 := (74, [some (.inr (.inr (some (12, 0)))), some (.inl a1), some (.inl a2)], [], m)) (s2 := (51, [some (.inr (.inr (some (12, 0)))), some (.inl a1), some (.inl a2)], [], m)) rfl hres (fun hc hres => ?_) (fun hc hres => ?_)
    · refine e_steps 2 (s' := (76, [some (.inr (.inr (some (12, 0)))), some (.inl a1), some (.inl a2)], [.inl a2, .inl a1], m)) rfl ?_
      refine e_if (s1 := (83, [some (.inr (.inr (some (12, 0)))), some (.inl a1), some (.inl a2)], [], m)) (s2 := (79, [some (.inr (.inr (some (12, 0)))), some (.inl a1), some (.inl a2)], [], m)) rfl hres (fun hc hres => ?_) (fun hc hres => ?_)
      · refine e_steps 1 (s' := (84, [some (.inr (.inr (some (12, 0)))), some (.inl a1), some (.inl a2)], [.inl 0], m)) rfl ?_
        refine e_mask (L' := [none, none, none]) rfl ?_
        obtain rfl := Option.some.inj hres
        exact e_ret rfl rfl
      · refine e_steps 2 (s' := (84, [some (.inr (.inr (some (12, 0)))), some (.inl a1), some (.inl a2)], [.inl 1], m)) rfl ?_
        refine e_mask (L' := [none, none, none]) rfl ?_
        obtain rfl := Option.some.inj hres
        exact e_ret rfl rfl
    · refine e_steps 3 (s' := (56, [some (.inr (.inr (some (12, 0)))), some (.inl a1), some (.inl a2)], [.inl a1, .inr (.inr (some (120, 0)))], m)) rfl ?_
      refine e_gd (s1 := (57, [some (.inr (.inr (some (12, 0)))), some (.inl a1), some (.inl a2)], [.inl (m 120 0 a1.toNatClampNeg)], m)) rfl hres (fun hc hres => ?_)
      refine e_steps 3 (s' := (62, [some (.inr (.inr (some (12, 0)))), some (.inl a1), some (.inl a2)], [.inl a2, .inr (.inr (some (120, 0))), .inl (m 120 0 a1.toNatClampNeg)], m)) rfl ?_
      refine e_gd (s1 := (63, [some (.inr (.inr (some (12, 0)))), some (.inl a1), some (.inl a2)], [.inl (m 120 0 a2.toNatClampNeg), .inl (m 120 0 a1.toNatClampNeg)], m)) rfl hres (fun hc hres => ?_)
      refine e_if (s1 := (70, [some (.inr (.inr (some (12, 0)))), some (.inl a1), some (.inl a2)], [], m)) (s2 := (66, [some (.inr (.inr (some (12, 0)))), some (.inl a1), some (.inl a2)], [], m)) rfl hres (fun hc hres => ?_) (fun hc hres => ?_)
      · refine e_steps 2 (s' := (84, [some (.inr (.inr (some (12, 0)))), some (.inl a1), some (.inl a2)], [.inl 0], m)) rfl ?_
        refine e_mask (L' := [none, none, none]) rfl ?_
        obtain rfl := Option.some.inj hres
        exact e_ret rfl rfl
      · refine e_steps 2 (s' := (84, [some (.inr (.inr (some (12, 0)))), some (.inl a1), some (.inl a2)], [.inl 1], m)) rfl ?_
        refine e_mask (L' := [none, none, none]) rfl ?_
        obtain rfl := Option.some.inj hres
        exact e_ret rfl rfl
  · refine e_steps 3 (s' := (20, [some (.inr (.inr (some (12, 0)))), some (.inl a1), some (.inl a2)], [.inl a1, .inr (.inr (some (119, 0)))], m)) rfl ?_
    refine e_gd (s1 := (21, [some (.inr (.inr (some (12, 0)))), some (.inl a1), some (.inl a2)], [.inl (m 119 0 a1.toNatClampNeg)], m)) rfl hres (fun hc hres => ?_)
    refine e_steps 3 (s' := (26, [some (.inr (.inr (some (12, 0)))), some (.inl a1), some (.inl a2)], [.inl a2, .inr (.inr (some (119, 0))), .inl (m 119 0 a1.toNatClampNeg)], m)) rfl ?_
    refine e_gd (s1 := (27, [some (.inr (.inr (some (12, 0)))), some (.inl a1), some (.inl a2)], [.inl (m 119 0 a2.toNatClampNeg), .inl (m 119 0 a1.toNatClampNeg)], m)) rfl hres (fun hc hres => ?_)
    refine e_if (s1 := (34, [some (.inr (.inr (some (12, 0)))), some (.inl a1), some (.inl a2)], [], m)) (s2 := (30, [some (.inr (.inr (some (12, 0)))), some (.inl a1), some (.inl a2)], [], m)) rfl hres (fun hc hres => ?_) (fun hc hres => ?_)
    · refine e_steps 1 (s' := (35, [some (.inr (.inr (some (12, 0)))), some (.inl a1), some (.inl a2)], [.inl 0], m)) rfl ?_
      refine e_mask (L' := [none, none, none]) rfl ?_
      obtain rfl := Option.some.inj hres
      exact e_ret rfl rfl
    · refine e_steps 2 (s' := (35, [some (.inr (.inr (some (12, 0)))), some (.inl a1), some (.inl a2)], [.inl 1], m)) rfl ?_
      refine e_mask (L' := [none, none, none]) rfl ?_
      obtain rfl := Option.some.inj hres
      exact e_ret rfl rfl
/-- GlassThreadsModel.leastWay()I -/
def f_X12_leastWay  (m : mm_M) : Option (Int32) :=
(mm_b1 (mm_loop (σ := Int32 × Int32) (ρ := (Int32)) (fun (s : Int32 × Int32) => match s with
| (v2, v3) => (if (m 12 0 79) ≤ v3 then (some (.inr v2))
else (if v2 = (-1) then (mm_let (v3 + 1) fun v4 =>
some (.inl (v3, v4)))
else (mm_b1 (f_X12_isAhead v3 v2 m) fun r5 =>
if r5 = 0 then (mm_let (v3 + 1) fun v6 =>
some (.inl (v2, v6)))
else (mm_let (v3 + 1) fun v7 =>
some (.inl (v3, v7))))) : Option ((Int32 × Int32) ⊕ ((Int32))))) mm_fu ((-1), 0)) fun v8 =>
some v8)
set_option maxHeartbeats 4000000 in
set_option maxRecDepth 100000 in
theorem k_X12_leastWay (d : Nat) (hd : 1 ≤ d)  (m : mm_M) (r : Int32) (hres : f_X12_leastWay  m = some r) : mm_X d 237 [.inr (.inr (some (12, 0)))] m (.inl (some (.inl r)), m, 0, 0) := by
  unfold f_X12_leastWay at hres
  obtain ⟨d, rfl⟩ : ∃ e, d = e + 1 := ⟨d - 1, by omega⟩
  show mm_E (d + 1) 237 (0, [some (.inr (.inr (some (12, 0)))), none, none], [], m) (.inl (some (.inl r)), m, 0, 0)
  refine e_steps 4 (s' := (4, [some (.inr (.inr (some (12, 0)))), some (.inl (-1)), some (.inl 0)], [], m)) rfl ?_
  refine e_mask (L' := [some (.inr (.inr (some (12, 0)))), some (.inl (-1)), some (.inl 0)]) rfl ?_
  refine e_loopb (φ := fun s => (4, [some (.inr (.inr (some (12, 0)))), some (.inl s.1), some (.inl s.2)], [], m)) (K := fun t => mm_E (d + 1) 237 (34, [none, some (.inl t), none], [], m) (.inl (some (.inl r)), m, 0, 0)) hres (fun v8 hres => ?_) (fun s ol1 hres hcl1 hxl1 => ?_)
  · show mm_E (d + 1) 237 (34, [none, some (.inl v8), none], [], m) (.inl (some (.inl r)), m, 0, 0)
    refine e_steps 1 (s' := (35, [none, some (.inl v8), none], [.inl v8], m)) rfl ?_
    obtain rfl := Option.some.inj hres
    exact e_ret rfl rfl
  · obtain ⟨v2, v3⟩ := s
    show mm_E (d + 1) 237 (4, [some (.inr (.inr (some (12, 0)))), some (.inl v2), some (.inl v3)], [], m) (.inl (some (.inl r)), m, 0, 0)
    refine e_steps 3 (s' := (9, [some (.inr (.inr (some (12, 0)))), some (.inl v2), some (.inl v3)], [.inl (m 12 0 79), .inl v3], m)) rfl ?_
    refine e_if (s1 := (34, [some (.inr (.inr (some (12, 0)))), some (.inl v2), some (.inl v3)], [], m)) (s2 := (12, [some (.inr (.inr (some (12, 0)))), some (.inl v2), some (.inl v3)], [], m)) rfl hres (fun hc hres => ?_) (fun hc hres => ?_)
    · obtain rfl := Option.some.inj hres
      exact e_mask (L' := [none, some (.inl v2), none]) rfl (hxl1 _ rfl)
    · refine e_steps 2 (s' := (14, [some (.inr (.inr (some (12, 0)))), some (.inl v2), some (.inl v3)], [.inl (-1), .inl v2], m)) rfl ?_
      refine e_if (s1 := (26, [some (.inr (.inr (some (12, 0)))), some (.inl v2), some (.inl v3)], [], m)) (s2 := (17, [some (.inr (.inr (some (12, 0)))), some (.inl v2), some (.inl v3)], [], m)) rfl hres (fun hc hres => ?_) (fun hc hres => ?_)
      · refine e_mask (L' := [some (.inr (.inr (some (12, 0)))), none, some (.inl v3)]) rfl ?_
        refine e_steps 3 (s' := (31, [some (.inr (.inr (some (12, 0)))), some (.inl v3), some (.inl (v3 + 1))], [], m)) rfl ?_
        refine e_let (fun (v4 : Int32) => (31, [some (.inr (.inr (some (12, 0)))), some (.inl v3), some (.inl v4)], [], m)) hres (fun v4 hres => ?_)
        refine e_steps 1 (s' := (4, [some (.inr (.inr (some (12, 0)))), some (.inl v3), some (.inl v4)], [], m)) rfl ?_
        obtain rfl := Option.some.inj hres
        exact e_mask (L' := [some (.inr (.inr (some (12, 0)))), some (.inl v3), some (.inl v4)]) rfl (hcl1 _ rfl)
      · refine e_steps 3 (s' := (20, [some (.inr (.inr (some (12, 0)))), some (.inl v2), some (.inl v3)], [.inl v2, .inl v3, .inr (.inr (some (12, 0)))], m)) rfl ?_
        obtain ⟨r5, hv, hres⟩ := mm_b1_some hres
        refine e_call0 (pc := 23) (L := [some (.inr (.inr (some (12, 0)))), some (.inl v2), some (.inl v3)]) (st := []) (m' := m) (v := some (.inl r5)) rfl (k_X12_isAhead d (by omega) v3 v2 _ _ hv) ?_
        show mm_E (d + 1) 237 (23, [some (.inr (.inr (some (12, 0)))), some (.inl v2), some (.inl v3)], [.inl r5], m) (.inl (some (.inl r)), m, 0, 0)
        refine e_if (s1 := (28, [some (.inr (.inr (some (12, 0)))), some (.inl v2), some (.inl v3)], [], m)) (s2 := (26, [some (.inr (.inr (some (12, 0)))), some (.inl v2), some (.inl v3)], [], m)) rfl hres (fun hc hres => ?_) (fun hc hres => ?_)
        · refine e_steps 1 (s' := (31, [some (.inr (.inr (some (12, 0)))), some (.inl v2), some (.inl (v3 + 1))], [], m)) rfl ?_
          refine e_let (fun (v6 : Int32) => (31, [some (.inr (.inr (some (12, 0)))), some (.inl v2), some (.inl v6)], [], m)) hres (fun v6 hres => ?_)
          refine e_steps 1 (s' := (4, [some (.inr (.inr (some (12, 0)))), some (.inl v2), some (.inl v6)], [], m)) rfl ?_
          obtain rfl := Option.some.inj hres
          exact e_mask (L' := [some (.inr (.inr (some (12, 0)))), some (.inl v2), some (.inl v6)]) rfl (hcl1 _ rfl)
        · refine e_mask (L' := [some (.inr (.inr (some (12, 0)))), none, some (.inl v3)]) rfl ?_
          refine e_steps 3 (s' := (31, [some (.inr (.inr (some (12, 0)))), some (.inl v3), some (.inl (v3 + 1))], [], m)) rfl ?_
          refine e_let (fun (v7 : Int32) => (31, [some (.inr (.inr (some (12, 0)))), some (.inl v3), some (.inl v7)], [], m)) hres (fun v7 hres => ?_)
          refine e_steps 1 (s' := (4, [some (.inr (.inr (some (12, 0)))), some (.inl v3), some (.inl v7)], [], m)) rfl ?_
          obtain rfl := Option.some.inj hres
          exact e_mask (L' := [some (.inr (.inr (some (12, 0)))), some (.inl v3), some (.inl v7)]) rfl (hcl1 _ rfl)
/-- GlassThreadsModel.way(II)I -/
def f_X12_way (a1 : Int32) (a2 : Int32) (m : mm_M) : Option (Int32 × mm_M) :=
mm_let (mm_w m 12 0 3 0) fun m1 =>
mm_b1 (f_X12_isNode a1 m1) fun r2 =>
if r2 = 0 then (mm_b2 (f_X12_fail 1 m1) fun r3 m4 =>
some (r3, m4))
else (mm_b1 (f_X12_isNode a2 m1) fun r5 =>
if r5 ≠ 0 then (mm_b1 (f_X12_tellCosts m1) fun m7 =>
mm_b1 (f_X12_tellWays a1 a2 0 m7) fun m9 =>
mm_b1 (f_X12_leastWay m9) fun r10 =>
if r10 ≠ (-1) then (if mm_in r10 400 then (
mm_let (mm_w m9 12 0 80 (m9 120 0 r10.toNatClampNeg)) fun m11 =>
(mm_b1 (mm_loop (σ := Int32 × mm_M) (ρ := (mm_M)) (fun (s : Int32 × mm_M) => match s with
| (v13, m14) => (if (m14 12 0 80) ≤ v13 then (some (.inr m14))
else (if mm_in ((10 * r10) + v13) 4000 then (
if mm_in v13 20 then (
mm_let (mm_w m14 124 0 v13.toNatClampNeg (m14 121 0 ((10 * r10) + v13).toNatClampNeg)) fun m15 =>
mm_let (v13 + 1) fun v16 =>
some (.inl (v16, m15))) else none) else none) : Option ((Int32 × mm_M) ⊕ ((mm_M))))) mm_fu (0, m11)) fun m17 =>
if mm_in r10 400 then (
some ((m17 119 0 r10.toNatClampNeg), m17)) else none)) else none)
else (some ((-1), m9)))
else (mm_b2 (f_X12_fail 1 m1) fun r18 m19 =>
some (r18, m19)))
set_option maxHeartbeats 4000000 in
set_option maxRecDepth 100000 in
theorem k_X12_way (d : Nat) (hd : 18 ≤ d) (a1 : Int32) (a2 : Int32) (m : mm_M) (r : Int32 × mm_M) (hres : f_X12_way a1 a2 m = some r) : mm_X d 238 [.inr (.inr (some (12, 0))), .inl a1, .inl a2] m (.inl (some (.inl r.1)), r.2, 0, 0) := by
  unfold f_X12_way at hres
  obtain ⟨d, rfl⟩ : ∃ e, d = e + 1 := ⟨d - 1, by omega⟩
  show mm_E (d + 1) 238 (0, [some (.inr (.inr (some (12, 0)))), some (.inl a1), some (.inl a2), none, none], [], m) (.inl (some (.inl r.1)), r.2, 0, 0)
  refine e_steps 3 (s' := (5, [some (.inr (.inr (some (12, 0)))), some (.inl a1), some (.inl a2), none, none], [], (mm_w m 12 0 3 0))) rfl ?_
  refine e_let (fun (m1 : mm_M) => (5, [some (.inr (.inr (some (12, 0)))), some (.inl a1), some (.inl a2), none, none], [], m1)) hres (fun m1 hres => ?_)
  refine e_steps 1 (s' := (6, [some (.inr (.inr (some (12, 0)))), some (.inl a1), some (.inl a2), none, none], [.inl a1], m1)) rfl ?_
  obtain ⟨r2, hv, hres⟩ := mm_b1_some hres
  refine e_call0 (pc := 9) (L := [some (.inr (.inr (some (12, 0)))), some (.inl a1), some (.inl a2), none, none]) (st := []) (m' := m1) (v := some (.inl r2)) rfl (k_X12_isNode d (by omega) a1 _ _ hv) ?_
  show mm_E (d + 1) 238 (9, [some (.inr (.inr (some (12, 0)))), some (.inl a1), some (.inl a2), none, none], [.inl r2], m1) (.inl (some (.inl r.1)), r.2, 0, 0)
  refine e_if (s1 := (19, [some (.inr (.inr (some (12, 0)))), some (.inl a1), some (.inl a2), none, none], [], m1)) (s2 := (12, [some (.inr (.inr (some (12, 0)))), some (.inl a1), some (.inl a2), none, none], [], m1)) rfl hres (fun hc hres => ?_) (fun hc hres => ?_)
  · refine e_mask (L' := [some (.inr (.inr (some (12, 0)))), none, none, none, none]) rfl ?_
    refine e_steps 2 (s' := (21, [some (.inr (.inr (some (12, 0)))), none, none, none, none], [.inl 1, .inr (.inr (some (12, 0)))], m1)) rfl ?_
    obtain ⟨r3, m4, hv, hres⟩ := mm_b2_some hres
    refine e_call0 (pc := 24) (L := [some (.inr (.inr (some (12, 0)))), none, none, none, none]) (st := []) (m' := m4) (v := some (.inl r3)) rfl (k_X12_fail d (by omega) 1 _ _ hv) ?_
    show mm_E (d + 1) 238 (24, [some (.inr (.inr (some (12, 0)))), none, none, none, none], [.inl r3], m4) (.inl (some (.inl r.1)), r.2, 0, 0)
    obtain rfl := Option.some.inj hres
    exact e_ret rfl rfl
  · refine e_steps 1 (s' := (13, [some (.inr (.inr (some (12, 0)))), some (.inl a1), some (.inl a2), none, none], [.inl a2], m1)) rfl ?_
    obtain ⟨r5, hv, hres⟩ := mm_b1_some hres
    refine e_call0 (pc := 16) (L := [some (.inr (.inr (some (12, 0)))), some (.inl a1), some (.inl a2), none, none]) (st := []) (m' := m1) (v := some (.inl r5)) rfl (k_X12_isNode d (by omega) a2 _ _ hv) ?_
    show mm_E (d + 1) 238 (16, [some (.inr (.inr (some (12, 0)))), some (.inl a1), some (.inl a2), none, none], [.inl r5], m1) (.inl (some (.inl r.1)), r.2, 0, 0)
    refine e_if (s1 := (25, [some (.inr (.inr (some (12, 0)))), some (.inl a1), some (.inl a2), none, none], [], m1)) (s2 := (19, [some (.inr (.inr (some (12, 0)))), some (.inl a1), some (.inl a2), none, none], [], m1)) rfl hres (fun hc hres => ?_) (fun hc hres => ?_)
    · refine e_steps 1 (s' := (26, [some (.inr (.inr (some (12, 0)))), some (.inl a1), some (.inl a2), none, none], [.inr (.inr (some (12, 0)))], m1)) rfl ?_
      obtain ⟨m7, hv, hres⟩ := mm_b1_some hres
      refine e_call0 (pc := 29) (L := [some (.inr (.inr (some (12, 0)))), some (.inl a1), some (.inl a2), none, none]) (st := []) (m' := m7) (v := none) rfl (k_X12_tellCosts d (by omega)  _ _ hv) ?_
      show mm_E (d + 1) 238 (29, [some (.inr (.inr (some (12, 0)))), some (.inl a1), some (.inl a2), none, none], [], m7) (.inl (some (.inl r.1)), r.2, 0, 0)
      refine e_steps 4 (s' := (33, [some (.inr (.inr (some (12, 0)))), some (.inl a1), some (.inl a2), none, none], [.inl 0, .inl a2, .inl a1, .inr (.inr (some (12, 0)))], m7)) rfl ?_
      obtain ⟨m9, hv, hres⟩ := mm_b1_some hres
      refine e_call0 (pc := 36) (L := [some (.inr (.inr (some (12, 0)))), some (.inl a1), some (.inl a2), none, none]) (st := []) (m' := m9) (v := none) rfl (k_X12_tellWays d (by omega) a1 a2 0 _ _ hv) ?_
      show mm_E (d + 1) 238 (36, [some (.inr (.inr (some (12, 0)))), some (.inl a1), some (.inl a2), none, none], [], m9) (.inl (some (.inl r.1)), r.2, 0, 0)
      refine e_steps 1 (s' := (37, [some (.inr (.inr (some (12, 0)))), some (.inl a1), some (.inl a2), none, none], [.inr (.inr (some (12, 0)))], m9)) rfl ?_
      obtain ⟨r10, hv, hres⟩ := mm_b1_some hres
      refine e_call0 (pc := 40) (L := [some (.inr (.inr (some (12, 0)))), some (.inl a1), some (.inl a2), none, none]) (st := []) (m' := m9) (v := some (.inl r10)) rfl (k_X12_leastWay d (by omega)  _ _ hv) ?_
      show mm_E (d + 1) 238 (40, [some (.inr (.inr (some (12, 0)))), some (.inl a1), some (.inl a2), none, none], [.inl r10], m9) (.inl (some (.inl r.1)), r.2, 0, 0)
      refine e_steps 3 (s' := (43, [some (.inr (.inr (some (12, 0)))), some (.inl a1), some (.inl a2), some (.inl r10), none], [.inl (-1), .inl r10], m9)) rfl ?_
      refine e_if (s1 := (48, [some (.inr (.inr (some (12, 0)))), some (.inl a1), some (.inl a2), some (.inl r10), none], [], m9)) (s2 := (46, [some (.inr (.inr (some (12, 0)))), some (.inl a1), some (.inl a2), some (.inl r10), none], [], m9)) rfl hres (fun hc hres => ?_) (fun hc hres => ?_)
      · refine e_steps 4 (s' := (54, [some (.inr (.inr (some (12, 0)))), some (.inl a1), some (.inl a2), some (.inl r10), none], [.inl r10, .inr (.inr (some (120, 0))), .inr (.inr (some (12, 0)))], m9)) rfl ?_
        refine e_gd (s1 := (55, [some (.inr (.inr (some (12, 0)))), some (.inl a1), some (.inl a2), some (.inl r10), none], [.inl (m9 120 0 r10.toNatClampNeg), .inr (.inr (some (12, 0)))], m9)) rfl hres (fun hc hres => ?_)
        refine e_steps 1 (s' := (58, [some (.inr (.inr (some (12, 0)))), some (.inl a1), some (.inl a2), some (.inl r10), none], [], (mm_w m9 12 0 80 (m9 120 0 r10.toNatClampNeg)))) rfl ?_
        refine e_let (fun (m11 : mm_M) => (58, [some (.inr (.inr (some (12, 0)))), some (.inl a1), some (.inl a2), some (.inl r10), none], [], m11)) hres (fun m11 hres => ?_)
        refine e_steps 2 (s' := (61, [some (.inr (.inr (some (12, 0)))), some (.inl a1), some (.inl a2), some (.inl r10), some (.inl 0)], [], m11)) rfl ?_
        refine e_mask (L' := [some (.inr (.inr (some (12, 0)))), none, none, some (.inl r10), some (.inl 0)]) rfl ?_
        refine e_loopb (φ := fun s => (61, [some (.inr (.inr (some (12, 0)))), none, none, some (.inl r10), some (.inl s.1)], [], s.2)) (K := fun t => mm_E (d + 1) 238 (95, [some (.inr (.inr (some (12, 0)))), none, none, some (.inl r10), none], [], t) (.inl (some (.inl r.1)), r.2, 0, 0)) hres (fun m17 hres => ?_) (fun s ol12 hres hcl12 hxl12 => ?_)
        · show mm_E (d + 1) 238 (95, [some (.inr (.inr (some (12, 0)))), none, none, some (.inl r10), none], [], m17) (.inl (some (.inl r.1)), r.2, 0, 0)
          refine e_steps 3 (s' := (100, [some (.inr (.inr (some (12, 0)))), none, none, some (.inl r10), none], [.inl r10, .inr (.inr (some (119, 0)))], m17)) rfl ?_
          refine e_gd (s1 := (101, [some (.inr (.inr (some (12, 0)))), none, none, some (.inl r10), none], [.inl (m17 119 0 r10.toNatClampNeg)], m17)) rfl hres (fun hc hres => ?_)
          obtain rfl := Option.some.inj hres
          exact e_ret rfl rfl
        · obtain ⟨v13, m14⟩ := s
          show mm_E (d + 1) 238 (61, [some (.inr (.inr (some (12, 0)))), none, none, some (.inl r10), some (.inl v13)], [], m14) (.inl (some (.inl r.1)), r.2, 0, 0)
          refine e_steps 3 (s' := (67, [some (.inr (.inr (some (12, 0)))), none, none, some (.inl r10), some (.inl v13)], [.inl (m14 12 0 80), .inl v13], m14)) rfl ?_
          refine e_if (s1 := (95, [some (.inr (.inr (some (12, 0)))), none, none, some (.inl r10), some (.inl v13)], [], m14)) (s2 := (70, [some (.inr (.inr (some (12, 0)))), none, none, some (.inl r10), some (.inl v13)], [], m14)) rfl hres (fun hc hres => ?_) (fun hc hres => ?_)
          · obtain rfl := Option.some.inj hres
            exact e_mask (L' := [some (.inr (.inr (some (12, 0)))), none, none, some (.inl r10), none]) rfl (hxl12 _ rfl)
          · refine e_steps 10 (s' := (87, [some (.inr (.inr (some (12, 0)))), none, none, some (.inl r10), some (.inl v13)], [.inl ((10 * r10) + v13), .inr (.inr (some (121, 0))), .inl v13, .inr (.inr (some (124, 0)))], m14)) rfl ?_
            refine e_gd (s1 := (88, [some (.inr (.inr (some (12, 0)))), none, none, some (.inl r10), some (.inl v13)], [.inl (m14 121 0 ((10 * r10) + v13).toNatClampNeg), .inl v13, .inr (.inr (some (124, 0)))], m14)) rfl hres (fun hc hres => ?_)
            refine e_gd (s1 := (89, [some (.inr (.inr (some (12, 0)))), none, none, some (.inl r10), some (.inl v13)], [], (mm_w m14 124 0 v13.toNatClampNeg (m14 121 0 ((10 * r10) + v13).toNatClampNeg)))) rfl hres (fun hc hres => ?_)
            refine e_let (fun (m15 : mm_M) => (89, [some (.inr (.inr (some (12, 0)))), none, none, some (.inl r10), some (.inl v13)], [], m15)) hres (fun m15 hres => ?_)
            refine e_steps 1 (s' := (92, [some (.inr (.inr (some (12, 0)))), none, none, some (.inl r10), some (.inl (v13 + 1))], [], m15)) rfl ?_
            refine e_let (fun (v16 : Int32) => (92, [some (.inr (.inr (some (12, 0)))), none, none, some (.inl r10), some (.inl v16)], [], m15)) hres (fun v16 hres => ?_)
            refine e_steps 1 (s' := (61, [some (.inr (.inr (some (12, 0)))), none, none, some (.inl r10), some (.inl v16)], [], m15)) rfl ?_
            obtain rfl := Option.some.inj hres
            exact e_mask (L' := [some (.inr (.inr (some (12, 0)))), none, none, some (.inl r10), some (.inl v16)]) rfl (hcl12 _ rfl)
      · refine e_steps 1 (s' := (47, [some (.inr (.inr (some (12, 0)))), some (.inl a1), some (.inl a2), some (.inl r10), none], [.inl (-1)], m9)) rfl ?_
        obtain rfl := Option.some.inj hres
        exact e_ret rfl rfl
    · refine e_mask (L' := [some (.inr (.inr (some (12, 0)))), none, none, none, none]) rfl ?_
      refine e_steps 2 (s' := (21, [some (.inr (.inr (some (12, 0)))), none, none, none, none], [.inl 1, .inr (.inr (some (12, 0)))], m1)) rfl ?_
      obtain ⟨r18, m19, hv, hres⟩ := mm_b2_some hres
      refine e_call0 (pc := 24) (L := [some (.inr (.inr (some (12, 0)))), none, none, none, none]) (st := []) (m' := m19) (v := some (.inl r18)) rfl (k_X12_fail d (by omega) 1 _ _ hv) ?_
      show mm_E (d + 1) 238 (24, [some (.inr (.inr (some (12, 0)))), none, none, none, none], [.inl r18], m19) (.inl (some (.inl r.1)), r.2, 0, 0)
      obtain rfl := Option.some.inj hres
      exact e_ret rfl rfl
/-- GlassThreadsModel.pair(II)I -/
def f_X12_pair (a1 : Int32) (a2 : Int32) (m : mm_M) : Option (Int32 × mm_M) :=
mm_let (mm_w m 12 0 3 0) fun m1 =>
mm_b1 (f_X12_isNode a1 m1) fun r2 =>
if r2 = 0 then (mm_b2 (f_X12_fail 1 m1) fun r3 m4 =>
some (r3, m4))
else (mm_b1 (f_X12_isNode a2 m1) fun r5 =>
if r5 ≠ 0 then (if a1 ≠ a2 then (mm_b1 (f_X12_tellCosts m1) fun m7 =>
mm_b1 (f_X12_tellWays a1 a2 0 m7) fun m9 =>
(mm_b1 (mm_loop (σ := Int32 × Int32 × Int32) (ρ := (Int32 × Int32)) (fun (s : Int32 × Int32 × Int32) => match s with
| (v11, v12, v13) => (if (m9 12 0 79) ≤ v13 then (some (.inr (v11, v12)))
else ((mm_b1 (mm_loop (σ := Int32 × Int32 × Int32) (ρ := (Int32 × Int32)) (fun (s : Int32 × Int32 × Int32) => match s with
| (v15, v16, v17) => (if (m9 12 0 79) ≤ v17 then (some (.inr (v15, v16)))
else (if mm_in v13 400 then (
if mm_in v17 400 then (
if ((m9 122 0 v13.toNatClampNeg) &&& (m9 122 0 v17.toNatClampNeg)) = 0 then (mm_let (fun (w18 : Int32) => (if w18 ≠ 0 then (mm_let (fun (w20 : Int32) => (if w18 = 0 then (mm_let (v17 + 1) fun v22 =>
some (.inl (w20, v16, v22)))
else (mm_let (v17 + 1) fun v23 =>
some (.inl (w20, v17, v23))) : Option ((Int32 × Int32 × Int32) ⊕ ((Int32 × Int32))))) fun k21 =>
if w18 = 0 then (k21 v15)
else (k21 v13))
else (if mm_in v13 400 then (
if mm_in v17 400 then (
if mm_in v15 400 then (
if mm_in v16 400 then (
mm_let ((((m9 119 0 v13.toNatClampNeg) + (m9 119 0 v17.toNatClampNeg)) - (m9 119 0 v15.toNatClampNeg)) - (m9 119 0 v16.toNatClampNeg)) fun v24 =>
mm_let ((mm_let (fun (w26 : Int32) => (mm_let (v17 + 1) fun v28 =>
some (.inl (w26, v17, v28)) : Option ((Int32 × Int32 × Int32) ⊕ ((Int32 × Int32))))) fun k27 =>
k27 v13 : Option ((Int32 × Int32 × Int32) ⊕ ((Int32 × Int32))))) fun k25 =>
if v24 < 0 then (k25)
else (mm_let ((mm_let (fun (w30 : Int32) => (mm_let (v17 + 1) fun v32 =>
some (.inl (w30, v16, v32)) : Option ((Int32 × Int32 × Int32) ⊕ ((Int32 × Int32))))) fun k31 =>
k31 v15 : Option ((Int32 × Int32 × Int32) ⊕ ((Int32 × Int32))))) fun k29 =>
if v24 ≠ 0 then (k29)
else (if v13 ≠ v15 then (mm_b1 (f_X12_isAhead v13 v15 m9) fun r33 =>
if r33 = 0 then (k29)
else (k25))
else (mm_b1 (f_X12_isAhead v17 v16 m9) fun r34 =>
if r34 = 0 then (k29)
else (k25))))) else none) else none) else none) else none) : Option ((Int32 × Int32 × Int32) ⊕ ((Int32 × Int32))))) fun k19 =>
if v15 ≠ (-1) then (k19 0)
else (k19 1))
else (mm_let (v17 + 1) fun v35 =>
some (.inl (v15, v16, v35)))) else none) else none) : Option ((Int32 × Int32 × Int32) ⊕ ((Int32 × Int32))))) mm_fu (v11, v12, 0)) fun t => match t with
| (v36, v37) => mm_let (v13 + 1) fun v38 =>
some (.inl (v36, v37, v38)))) : Option ((Int32 × Int32 × Int32) ⊕ ((Int32 × Int32))))) mm_fu ((-1), (-1), 0)) fun t => match t with
| (v39, v40) => if v39 ≠ (-1) then (mm_let (mm_w m9 12 0 80 0) fun m41 =>
(mm_b1 (mm_loop (σ := Int32 × mm_M) (ρ := (mm_M)) (fun (s : Int32 × mm_M) => match s with
| (v43, m44) => (if mm_in v39 400 then (
if (m44 120 0 v39.toNatClampNeg) ≤ v43 then (some (.inr m44))
else (if mm_in ((10 * v39) + v43) 4000 then (
if mm_in (m44 12 0 80) 20 then (
mm_let (mm_w m44 124 0 ((m44 12 0 80).toNatClampNeg) (m44 121 0 ((10 * v39) + v43).toNatClampNeg)) fun m45 =>
mm_let (mm_w m45 12 0 80 ((m45 12 0 80) + 1)) fun m46 =>
mm_let (v43 + 1) fun v47 =>
some (.inl (v47, m46))) else none) else none)) else none : Option ((Int32 × mm_M) ⊕ ((mm_M))))) mm_fu (0, m41)) fun m48 =>
(mm_b1 (mm_loop (σ := Int32 × mm_M) (ρ := (mm_M)) (fun (s : Int32 × mm_M) => match s with
| (v50, m51) => (if mm_in v40 400 then (
if (m51 120 0 v40.toNatClampNeg) ≤ v50 then (some (.inr m51))
else (if mm_in ((10 * v40) + v50) 4000 then (
if mm_in (m51 12 0 80) 20 then (
mm_let (mm_w m51 124 0 ((m51 12 0 80).toNatClampNeg) (m51 121 0 ((10 * v40) + v50).toNatClampNeg)) fun m52 =>
mm_let (mm_w m52 12 0 80 ((m52 12 0 80) + 1)) fun m53 =>
mm_let (v50 + 1) fun v54 =>
some (.inl (v54, m53))) else none) else none)) else none : Option ((Int32 × mm_M) ⊕ ((mm_M))))) mm_fu (0, m48)) fun m55 =>
if mm_in v39 400 then (
if mm_in v40 400 then (
some (((m55 119 0 v39.toNatClampNeg) + (m55 119 0 v40.toNatClampNeg)), m55)) else none) else none)))
else (some ((-1), m9))))
else (some ((-1), m1)))
else (mm_b2 (f_X12_fail 1 m1) fun r56 m57 =>
some (r56, m57)))
set_option maxHeartbeats 4000000 in
set_option maxRecDepth 100000 in
theorem k_X12_pair (d : Nat) (hd : 18 ≤ d) (a1 : Int32) (a2 : Int32) (m : mm_M) (r : Int32 × mm_M) (hres : f_X12_pair a1 a2 m = some r) : mm_X d 239 [.inr (.inr (some (12, 0))), .inl a1, .inl a2] m (.inl (some (.inl r.1)), r.2, 0, 0) := by
  unfold f_X12_pair at hres
  obtain ⟨d, rfl⟩ : ∃ e, d = e + 1 := ⟨d - 1, by omega⟩
  show mm_E (d + 1) 239 (0, [some (.inr (.inr (some (12, 0)))), some (.inl a1), some (.inl a2), none, none, none, none, none, none], [], m) (.inl (some (.inl r.1)), r.2, 0, 0)
  refine e_steps 3 (s' := (5, [some (.inr (.inr (some (12, 0)))), some (.inl a1), some (.inl a2), none, none, none, none, none, none], [], (mm_w m 12 0 3 0))) rfl ?_
  refine e_let (fun (m1 : mm_M) => (5, [some (.inr (.inr (some (12, 0)))), some (.inl a1), some (.inl a2), none, none, none, none, none, none], [], m1)) hres (fun m1 hres => ?_)
  refine e_steps 1 (s' := (6, [some (.inr (.inr (some (12, 0)))), some (.inl a1), some (.inl a2), none, none, none, none, none, none], [.inl a1], m1)) rfl ?_
  obtain ⟨r2, hv, hres⟩ := mm_b1_some hres
  refine e_call0 (pc := 9) (L := [some (.inr (.inr (some (12, 0)))), some (.inl a1), some (.inl a2), none, none, none, none, none, none]) (st := []) (m' := m1) (v := some (.inl r2)) rfl (k_X12_isNode d (by omega) a1 _ _ hv) ?_
  show mm_E (d + 1) 239 (9, [some (.inr (.inr (some (12, 0)))), some (.inl a1), some (.inl a2), none, none, none, none, none, none], [.inl r2], m1) (.inl (some (.inl r.1)), r.2, 0, 0)
  refine e_if (s1 := (19, [some (.inr (.inr (some (12, 0)))), some (.inl a1), some (.inl a2), none, none, none, none, none, none], [], m1)) (s2 := (12, [some (.inr (.inr (some (12, 0)))), some (.inl a1), some (.inl a2), none, none, none, none, none, none], [], m1)) rfl hres (fun hc hres => ?_) (fun hc hres => ?_)
  · refine e_mask (L' := [some (.inr (.inr (some (12, 0)))), none, none, none, none, none, none, none, none]) rfl ?_
    refine e_steps 2 (s' := (21, [some (.inr (.inr (some (12, 0)))), none, none, none, none, none, none, none, none], [.inl 1, .inr (.inr (some (12, 0)))], m1)) rfl ?_
    obtain ⟨r3, m4, hv, hres⟩ := mm_b2_some hres
    refine e_call0 (pc := 24) (L := [some (.inr (.inr (some (12, 0)))), none, none, none, none, none, none, none, none]) (st := []) (m' := m4) (v := some (.inl r3)) rfl (k_X12_fail d (by omega) 1 _ _ hv) ?_
    show mm_E (d + 1) 239 (24, [some (.inr (.inr (some (12, 0)))), none, none, none, none, none, none, none, none], [.inl r3], m4) (.inl (some (.inl r.1)), r.2, 0, 0)
    obtain rfl := Option.some.inj hres
    exact e_ret rfl rfl
  · refine e_steps 1 (s' := (13, [some (.inr (.inr (some (12, 0)))), some (.inl a1), some (.inl a2), none, none, none, none, none, none], [.inl a2], m1)) rfl ?_
    obtain ⟨r5, hv, hres⟩ := mm_b1_some hres
    refine e_call0 (pc := 16) (L := [some (.inr (.inr (some (12, 0)))), some (.inl a1), some (.inl a2), none, none, none, none, none, none]) (st := []) (m' := m1) (v := some (.inl r5)) rfl (k_X12_isNode d (by omega) a2 _ _ hv) ?_
    show mm_E (d + 1) 239 (16, [some (.inr (.inr (some (12, 0)))), some (.inl a1), some (.inl a2), none, none, none, none, none, none], [.inl r5], m1) (.inl (some (.inl r.1)), r.2, 0, 0)
    refine e_if (s1 := (25, [some (.inr (.inr (some (12, 0)))), some (.inl a1), some (.inl a2), none, none, none, none, none, none], [], m1)) (s2 := (19, [some (.inr (.inr (some (12, 0)))), some (.inl a1), some (.inl a2), none, none, none, none, none, none], [], m1)) rfl hres (fun hc hres => ?_) (fun hc hres => ?_)
    · refine e_steps 2 (s' := (27, [some (.inr (.inr (some (12, 0)))), some (.inl a1), some (.inl a2), none, none, none, none, none, none], [.inl a2, .inl a1], m1)) rfl ?_
      refine e_if (s1 := (32, [some (.inr (.inr (some (12, 0)))), some (.inl a1), some (.inl a2), none, none, none, none, none, none], [], m1)) (s2 := (30, [some (.inr (.inr (some (12, 0)))), some (.inl a1), some (.inl a2), none, none, none, none, none, none], [], m1)) rfl hres (fun hc hres => ?_) (fun hc hres => ?_)
      · refine e_steps 1 (s' := (33, [some (.inr (.inr (some (12, 0)))), some (.inl a1), some (.inl a2), none, none, none, none, none, none], [.inr (.inr (some (12, 0)))], m1)) rfl ?_
        obtain ⟨m7, hv, hres⟩ := mm_b1_some hres
        refine e_call0 (pc := 36) (L := [some (.inr (.inr (some (12, 0)))), some (.inl a1), some (.inl a2), none, none, none, none, none, none]) (st := []) (m' := m7) (v := none) rfl (k_X12_tellCosts d (by omega)  _ _ hv) ?_
        show mm_E (d + 1) 239 (36, [some (.inr (.inr (some (12, 0)))), some (.inl a1), some (.inl a2), none, none, none, none, none, none], [], m7) (.inl (some (.inl r.1)), r.2, 0, 0)
        refine e_steps 4 (s' := (40, [some (.inr (.inr (some (12, 0)))), some (.inl a1), some (.inl a2), none, none, none, none, none, none], [.inl 0, .inl a2, .inl a1, .inr (.inr (some (12, 0)))], m7)) rfl ?_
        obtain ⟨m9, hv, hres⟩ := mm_b1_some hres
        refine e_call0 (pc := 43) (L := [some (.inr (.inr (some (12, 0)))), some (.inl a1), some (.inl a2), none, none, none, none, none, none]) (st := []) (m' := m9) (v := none) rfl (k_X12_tellWays d (by omega) a1 a2 0 _ _ hv) ?_
        show mm_E (d + 1) 239 (43, [some (.inr (.inr (some (12, 0)))), some (.inl a1), some (.inl a2), none, none, none, none, none, none], [], m9) (.inl (some (.inl r.1)), r.2, 0, 0)
        refine e_steps 6 (s' := (51, [some (.inr (.inr (some (12, 0)))), some (.inl a1), some (.inl a2), some (.inl (-1)), some (.inl (-1)), some (.inl 0), none, none, none], [], m9)) rfl ?_
        refine e_mask (L' := [some (.inr (.inr (some (12, 0)))), none, none, some (.inl (-1)), some (.inl (-1)), some (.inl 0), none, none, none]) rfl ?_
        refine e_loopb (φ := fun s => (51, [some (.inr (.inr (some (12, 0)))), none, none, some (.inl s.1), some (.inl s.2.1), some (.inl s.2.2), none, none, none], [], m9)) (K := fun t => mm_E (d + 1) 239 (227, [some (.inr (.inr (some (12, 0)))), none, none, some (.inl t.1), some (.inl t.2), none, none, none, none], [], m9) (.inl (some (.inl r.1)), r.2, 0, 0)) hres (fun t hres => ?_) (fun s ol10 hres hcl10 hxl10 => ?_)
        · obtain ⟨v39, v40⟩ := t
          show mm_E (d + 1) 239 (227, [some (.inr (.inr (some (12, 0)))), none, none, some (.inl v39), some (.inl v40), none, none, none, none], [], m9) (.inl (some (.inl r.1)), r.2, 0, 0)
          refine e_steps 2 (s' := (229, [some (.inr (.inr (some (12, 0)))), none, none, some (.inl v39), some (.inl v40), none, none, none, none], [.inl (-1), .inl v39], m9)) rfl ?_
          refine e_if (s1 := (234, [some (.inr (.inr (some (12, 0)))), none, none, some (.inl v39), some (.inl v40), none, none, none, none], [], m9)) (s2 := (232, [some (.inr (.inr (some (12, 0)))), none, none, some (.inl v39), some (.inl v40), none, none, none, none], [], m9)) rfl hres (fun hc hres => ?_) (fun hc hres => ?_)
          · refine e_steps 3 (s' := (239, [some (.inr (.inr (some (12, 0)))), none, none, some (.inl v39), some (.inl v40), none, none, none, none], [], (mm_w m9 12 0 80 0))) rfl ?_
            refine e_let (fun (m41 : mm_M) => (239, [some (.inr (.inr (some (12, 0)))), none, none, some (.inl v39), some (.inl v40), none, none, none, none], [], m41)) hres (fun m41 hres => ?_)
            refine e_steps 2 (s' := (242, [some (.inr (.inr (some (12, 0)))), none, none, some (.inl v39), some (.inl v40), some (.inl 0), none, none, none], [], m41)) rfl ?_
            refine e_mask (L' := [some (.inr (.inr (some (12, 0)))), none, none, some (.inl v39), some (.inl v40), some (.inl 0), none, none, none]) rfl ?_
            refine e_loopb (φ := fun s => (242, [some (.inr (.inr (some (12, 0)))), none, none, some (.inl v39), some (.inl v40), some (.inl s.1), none, none, none], [], s.2)) (K := fun t => mm_E (d + 1) 239 (290, [some (.inr (.inr (some (12, 0)))), none, none, some (.inl v39), some (.inl v40), none, none, none, none], [], t) (.inl (some (.inl r.1)), r.2, 0, 0)) hres (fun m48 hres => ?_) (fun s ol42 hres hcl42 hxl42 => ?_)
            · show mm_E (d + 1) 239 (290, [some (.inr (.inr (some (12, 0)))), none, none, some (.inl v39), some (.inl v40), none, none, none, none], [], m48) (.inl (some (.inl r.1)), r.2, 0, 0)
              refine e_steps 2 (s' := (293, [some (.inr (.inr (some (12, 0)))), none, none, some (.inl v39), some (.inl v40), some (.inl 0), none, none, none], [], m48)) rfl ?_
              refine e_mask (L' := [some (.inr (.inr (some (12, 0)))), none, none, some (.inl v39), some (.inl v40), some (.inl 0), none, none, none]) rfl ?_
              refine e_loopb (φ := fun s => (293, [some (.inr (.inr (some (12, 0)))), none, none, some (.inl v39), some (.inl v40), some (.inl s.1), none, none, none], [], s.2)) (K := fun t => mm_E (d + 1) 239 (343, [some (.inr (.inr (some (12, 0)))), none, none, some (.inl v39), some (.inl v40), none, none, none, none], [], t) (.inl (some (.inl r.1)), r.2, 0, 0)) hres (fun m55 hres => ?_) (fun s ol49 hres hcl49 hxl49 => ?_)
              · show mm_E (d + 1) 239 (343, [some (.inr (.inr (some (12, 0)))), none, none, some (.inl v39), some (.inl v40), none, none, none, none], [], m55) (.inl (some (.inl r.1)), r.2, 0, 0)
                refine e_steps 3 (s' := (348, [some (.inr (.inr (some (12, 0)))), none, none, some (.inl v39), some (.inl v40), none, none, none, none], [.inl v39, .inr (.inr (some (119, 0)))], m55)) rfl ?_
                refine e_gd (s1 := (349, [some (.inr (.inr (some (12, 0)))), none, none, some (.inl v39), some (.inl v40), none, none, none, none], [.inl (m55 119 0 v39.toNatClampNeg)], m55)) rfl hres (fun hc hres => ?_)
                refine e_steps 3 (s' := (355, [some (.inr (.inr (some (12, 0)))), none, none, some (.inl v39), some (.inl v40), none, none, none, none], [.inl v40, .inr (.inr (some (119, 0))), .inl (m55 119 0 v39.toNatClampNeg)], m55)) rfl ?_
                refine e_gd (s1 := (356, [some (.inr (.inr (some (12, 0)))), none, none, some (.inl v39), some (.inl v40), none, none, none, none], [.inl (m55 119 0 v40.toNatClampNeg), .inl (m55 119 0 v39.toNatClampNeg)], m55)) rfl hres (fun hc hres => ?_)
                refine e_steps 1 (s' := (357, [some (.inr (.inr (some (12, 0)))), none, none, some (.inl v39), some (.inl v40), none, none, none, none], [.inl ((m55 119 0 v39.toNatClampNeg) + (m55 119 0 v40.toNatClampNeg))], m55)) rfl ?_
                obtain rfl := Option.some.inj hres
                exact e_ret rfl rfl
              · obtain ⟨v50, m51⟩ := s
                show mm_E (d + 1) 239 (293, [some (.inr (.inr (some (12, 0)))), none, none, some (.inl v39), some (.inl v40), some (.inl v50), none, none, none], [], m51) (.inl (some (.inl r.1)), r.2, 0, 0)
                refine e_steps 4 (s' := (301, [some (.inr (.inr (some (12, 0)))), none, none, some (.inl v39), some (.inl v40), some (.inl v50), none, none, none], [.inl v40, .inr (.inr (some (120, 0))), .inl v50], m51)) rfl ?_
                refine e_gd (s1 := (302, [some (.inr (.inr (some (12, 0)))), none, none, some (.inl v39), some (.inl v40), some (.inl v50), none, none, none], [.inl (m51 120 0 v40.toNatClampNeg), .inl v50], m51)) rfl hres (fun hc hres => ?_)
                refine e_if (s1 := (343, [some (.inr (.inr (some (12, 0)))), none, none, some (.inl v39), some (.inl v40), some (.inl v50), none, none, none], [], m51)) (s2 := (305, [some (.inr (.inr (some (12, 0)))), none, none, some (.inl v39), some (.inl v40), some (.inl v50), none, none, none], [], m51)) rfl hres (fun hc hres => ?_) (fun hc hres => ?_)
                · obtain rfl := Option.some.inj hres
                  exact e_mask (L' := [some (.inr (.inr (some (12, 0)))), none, none, some (.inl v39), some (.inl v40), none, none, none, none]) rfl (hxl49 _ rfl)
                · refine e_steps 11 (s' := (325, [some (.inr (.inr (some (12, 0)))), none, none, some (.inl v39), some (.inl v40), some (.inl v50), none, none, none], [.inl ((10 * v40) + v50), .inr (.inr (some (121, 0))), .inl (m51 12 0 80), .inr (.inr (some (124, 0)))], m51)) rfl ?_
                  refine e_gd (s1 := (326, [some (.inr (.inr (some (12, 0)))), none, none, some (.inl v39), some (.inl v40), some (.inl v50), none, none, none], [.inl (m51 121 0 ((10 * v40) + v50).toNatClampNeg), .inl (m51 12 0 80), .inr (.inr (some (124, 0)))], m51)) rfl hres (fun hc hres => ?_)
                  refine e_gd (s1 := (327, [some (.inr (.inr (some (12, 0)))), none, none, some (.inl v39), some (.inl v40), some (.inl v50), none, none, none], [], (mm_w m51 124 0 ((m51 12 0 80).toNatClampNeg) (m51 121 0 ((10 * v40) + v50).toNatClampNeg)))) rfl hres (fun hc hres => ?_)
                  refine e_let (fun (m52 : mm_M) => (327, [some (.inr (.inr (some (12, 0)))), none, none, some (.inl v39), some (.inl v40), some (.inl v50), none, none, none], [], m52)) hres (fun m52 hres => ?_)
                  refine e_steps 6 (s' := (337, [some (.inr (.inr (some (12, 0)))), none, none, some (.inl v39), some (.inl v40), some (.inl v50), none, none, none], [], (mm_w m52 12 0 80 ((m52 12 0 80) + 1)))) rfl ?_
                  refine e_let (fun (m53 : mm_M) => (337, [some (.inr (.inr (some (12, 0)))), none, none, some (.inl v39), some (.inl v40), some (.inl v50), none, none, none], [], m53)) hres (fun m53 hres => ?_)
                  refine e_steps 1 (s' := (340, [some (.inr (.inr (some (12, 0)))), none, none, some (.inl v39), some (.inl v40), some (.inl (v50 + 1)), none, none, none], [], m53)) rfl ?_
                  refine e_let (fun (v54 : Int32) => (340, [some (.inr (.inr (some (12, 0)))), none, none, some (.inl v39), some (.inl v40), some (.inl v54), none, none, none], [], m53)) hres (fun v54 hres => ?_)
                  refine e_steps 1 (s' := (293, [some (.inr (.inr (some (12, 0)))), none, none, some (.inl v39), some (.inl v40), some (.inl v54), none, none, none], [], m53)) rfl ?_
                  obtain rfl := Option.some.inj hres
                  exact e_mask (L' := [some (.inr (.inr (some (12, 0)))), none, none, some (.inl v39), some (.inl v40), some (.inl v54), none, none, none]) rfl (hcl49 _ rfl)
            · obtain ⟨v43, m44⟩ := s
              show mm_E (d + 1) 239 (242, [some (.inr (.inr (some (12, 0)))), none, none, some (.inl v39), some (.inl v40), some (.inl v43), none, none, none], [], m44) (.inl (some (.inl r.1)), r.2, 0, 0)
              refine e_steps 4 (s' := (249, [some (.inr (.inr (some (12, 0)))), none, none, some (.inl v39), some (.inl v40), some (.inl v43), none, none, none], [.inl v39, .inr (.inr (some (120, 0))), .inl v43], m44)) rfl ?_
              refine e_gd (s1 := (250, [some (.inr (.inr (some (12, 0)))), none, none, some (.inl v39), some (.inl v40), some (.inl v43), none, none, none], [.inl (m44 120 0 v39.toNatClampNeg), .inl v43], m44)) rfl hres (fun hc hres => ?_)
              refine e_if (s1 := (290, [some (.inr (.inr (some (12, 0)))), none, none, some (.inl v39), some (.inl v40), some (.inl v43), none, none, none], [], m44)) (s2 := (253, [some (.inr (.inr (some (12, 0)))), none, none, some (.inl v39), some (.inl v40), some (.inl v43), none, none, none], [], m44)) rfl hres (fun hc hres => ?_) (fun hc hres => ?_)
              · obtain rfl := Option.some.inj hres
                exact e_mask (L' := [some (.inr (.inr (some (12, 0)))), none, none, some (.inl v39), some (.inl v40), none, none, none, none]) rfl (hxl42 _ rfl)
              · refine e_steps 11 (s' := (272, [some (.inr (.inr (some (12, 0)))), none, none, some (.inl v39), some (.inl v40), some (.inl v43), none, none, none], [.inl ((10 * v39) + v43), .inr (.inr (some (121, 0))), .inl (m44 12 0 80), .inr (.inr (some (124, 0)))], m44)) rfl ?_
                refine e_gd (s1 := (273, [some (.inr (.inr (some (12, 0)))), none, none, some (.inl v39), some (.inl v40), some (.inl v43), none, none, none], [.inl (m44 121 0 ((10 * v39) + v43).toNatClampNeg), .inl (m44 12 0 80), .inr (.inr (some (124, 0)))], m44)) rfl hres (fun hc hres => ?_)
                refine e_gd (s1 := (274, [some (.inr (.inr (some (12, 0)))), none, none, some (.inl v39), some (.inl v40), some (.inl v43), none, none, none], [], (mm_w m44 124 0 ((m44 12 0 80).toNatClampNeg) (m44 121 0 ((10 * v39) + v43).toNatClampNeg)))) rfl hres (fun hc hres => ?_)
                refine e_let (fun (m45 : mm_M) => (274, [some (.inr (.inr (some (12, 0)))), none, none, some (.inl v39), some (.inl v40), some (.inl v43), none, none, none], [], m45)) hres (fun m45 hres => ?_)
                refine e_steps 6 (s' := (284, [some (.inr (.inr (some (12, 0)))), none, none, some (.inl v39), some (.inl v40), some (.inl v43), none, none, none], [], (mm_w m45 12 0 80 ((m45 12 0 80) + 1)))) rfl ?_
                refine e_let (fun (m46 : mm_M) => (284, [some (.inr (.inr (some (12, 0)))), none, none, some (.inl v39), some (.inl v40), some (.inl v43), none, none, none], [], m46)) hres (fun m46 hres => ?_)
                refine e_steps 1 (s' := (287, [some (.inr (.inr (some (12, 0)))), none, none, some (.inl v39), some (.inl v40), some (.inl (v43 + 1)), none, none, none], [], m46)) rfl ?_
                refine e_let (fun (v47 : Int32) => (287, [some (.inr (.inr (some (12, 0)))), none, none, some (.inl v39), some (.inl v40), some (.inl v47), none, none, none], [], m46)) hres (fun v47 hres => ?_)
                refine e_steps 1 (s' := (242, [some (.inr (.inr (some (12, 0)))), none, none, some (.inl v39), some (.inl v40), some (.inl v47), none, none, none], [], m46)) rfl ?_
                obtain rfl := Option.some.inj hres
                exact e_mask (L' := [some (.inr (.inr (some (12, 0)))), none, none, some (.inl v39), some (.inl v40), some (.inl v47), none, none, none]) rfl (hcl42 _ rfl)
          · refine e_steps 1 (s' := (233, [some (.inr (.inr (some (12, 0)))), none, none, some (.inl v39), some (.inl v40), none, none, none, none], [.inl (-1)], m9)) rfl ?_
            obtain rfl := Option.some.inj hres
            exact e_ret rfl rfl
        · obtain ⟨v11, v12, v13⟩ := s
          show mm_E (d + 1) 239 (51, [some (.inr (.inr (some (12, 0)))), none, none, some (.inl v11), some (.inl v12), some (.inl v13), none, none, none], [], m9) (.inl (some (.inl r.1)), r.2, 0, 0)
          refine e_steps 3 (s' := (57, [some (.inr (.inr (some (12, 0)))), none, none, some (.inl v11), some (.inl v12), some (.inl v13), none, none, none], [.inl (m9 12 0 79), .inl v13], m9)) rfl ?_
          refine e_if (s1 := (227, [some (.inr (.inr (some (12, 0)))), none, none, some (.inl v11), some (.inl v12), some (.inl v13), none, none, none], [], m9)) (s2 := (60, [some (.inr (.inr (some (12, 0)))), none, none, some (.inl v11), some (.inl v12), some (.inl v13), none, none, none], [], m9)) rfl hres (fun hc hres => ?_) (fun hc hres => ?_)
          · obtain rfl := Option.some.inj hres
            exact e_mask (L' := [some (.inr (.inr (some (12, 0)))), none, none, some (.inl v11), some (.inl v12), none, none, none, none]) rfl (hxl10 _ rfl)
          · refine e_steps 2 (s' := (63, [some (.inr (.inr (some (12, 0)))), none, none, some (.inl v11), some (.inl v12), some (.inl v13), some (.inl 0), none, none], [], m9)) rfl ?_
            refine e_mask (L' := [some (.inr (.inr (some (12, 0)))), none, none, some (.inl v11), some (.inl v12), some (.inl v13), some (.inl 0), none, none]) rfl ?_
            refine e_loopb (φ := fun s => (63, [some (.inr (.inr (some (12, 0)))), none, none, some (.inl s.1), some (.inl s.2.1), some (.inl v13), some (.inl s.2.2), none, none], [], m9)) (K := fun t => mm_E (d + 1) 239 (221, [some (.inr (.inr (some (12, 0)))), none, none, some (.inl t.1), some (.inl t.2), some (.inl v13), none, none, none], [], m9) (.inl (some (.inl r.1)), r.2, 0, 0)) hres (fun t hres => ?_) (fun s ol14 hres hcl14 hxl14 => ?_)
            · obtain ⟨v36, v37⟩ := t
              show mm_E (d + 1) 239 (221, [some (.inr (.inr (some (12, 0)))), none, none, some (.inl v36), some (.inl v37), some (.inl v13), none, none, none], [], m9) (.inl (some (.inl r.1)), r.2, 0, 0)
              refine e_steps 1 (s' := (224, [some (.inr (.inr (some (12, 0)))), none, none, some (.inl v36), some (.inl v37), some (.inl (v13 + 1)), none, none, none], [], m9)) rfl ?_
              refine e_let (fun (v38 : Int32) => (224, [some (.inr (.inr (some (12, 0)))), none, none, some (.inl v36), some (.inl v37), some (.inl v38), none, none, none], [], m9)) hres (fun v38 hres => ?_)
              refine e_steps 1 (s' := (51, [some (.inr (.inr (some (12, 0)))), none, none, some (.inl v36), some (.inl v37), some (.inl v38), none, none, none], [], m9)) rfl ?_
              obtain rfl := Option.some.inj hres
              exact e_mask (L' := [some (.inr (.inr (some (12, 0)))), none, none, some (.inl v36), some (.inl v37), some (.inl v38), none, none, none]) rfl (hcl10 _ rfl)
            · obtain ⟨v15, v16, v17⟩ := s
              show mm_E (d + 1) 239 (63, [some (.inr (.inr (some (12, 0)))), none, none, some (.inl v15), some (.inl v16), some (.inl v13), some (.inl v17), none, none], [], m9) (.inl (some (.inl r.1)), r.2, 0, 0)
              refine e_steps 3 (s' := (69, [some (.inr (.inr (some (12, 0)))), none, none, some (.inl v15), some (.inl v16), some (.inl v13), some (.inl v17), none, none], [.inl (m9 12 0 79), .inl v17], m9)) rfl ?_
              refine e_if (s1 := (221, [some (.inr (.inr (some (12, 0)))), none, none, some (.inl v15), some (.inl v16), some (.inl v13), some (.inl v17), none, none], [], m9)) (s2 := (72, [some (.inr (.inr (some (12, 0)))), none, none, some (.inl v15), some (.inl v16), some (.inl v13), some (.inl v17), none, none], [], m9)) rfl hres (fun hc hres => ?_) (fun hc hres => ?_)
              · obtain rfl := Option.some.inj hres
                exact e_mask (L' := [some (.inr (.inr (some (12, 0)))), none, none, some (.inl v15), some (.inl v16), some (.inl v13), none, none, none]) rfl (hxl14 _ rfl)
              · refine e_steps 3 (s' := (78, [some (.inr (.inr (some (12, 0)))), none, none, some (.inl v15), some (.inl v16), some (.inl v13), some (.inl v17), none, none], [.inl v13, .inr (.inr (some (122, 0)))], m9)) rfl ?_
                refine e_gd (s1 := (79, [some (.inr (.inr (some (12, 0)))), none, none, some (.inl v15), some (.inl v16), some (.inl v13), some (.inl v17), none, none], [.inl (m9 122 0 v13.toNatClampNeg)], m9)) rfl hres (fun hc hres => ?_)
                refine e_steps 3 (s' := (85, [some (.inr (.inr (some (12, 0)))), none, none, some (.inl v15), some (.inl v16), some (.inl v13), some (.inl v17), none, none], [.inl v17, .inr (.inr (some (122, 0))), .inl (m9 122 0 v13.toNatClampNeg)], m9)) rfl ?_
                refine e_gd (s1 := (86, [some (.inr (.inr (some (12, 0)))), none, none, some (.inl v15), some (.inl v16), some (.inl v13), some (.inl v17), none, none], [.inl (m9 122 0 v17.toNatClampNeg), .inl (m9 122 0 v13.toNatClampNeg)], m9)) rfl hres (fun hc hres => ?_)
                refine e_steps 1 (s' := (87, [some (.inr (.inr (some (12, 0)))), none, none, some (.inl v15), some (.inl v16), some (.inl v13), some (.inl v17), none, none], [.inl ((m9 122 0 v13.toNatClampNeg) &&& (m9 122 0 v17.toNatClampNeg))], m9)) rfl ?_
                refine e_if (s1 := (93, [some (.inr (.inr (some (12, 0)))), none, none, some (.inl v15), some (.inl v16), some (.inl v13), some (.inl v17), none, none], [], m9)) (s2 := (90, [some (.inr (.inr (some (12, 0)))), none, none, some (.inl v15), some (.inl v16), some (.inl v13), some (.inl v17), none, none], [], m9)) rfl hres (fun hc hres => ?_) (fun hc hres => ?_)
                · refine e_steps 2 (s' := (95, [some (.inr (.inr (some (12, 0)))), none, none, some (.inl v15), some (.inl v16), some (.inl v13), some (.inl v17), none, none], [.inl (-1), .inl v15], m9)) rfl ?_
                  refine e_join (fun k19 => ∀ (w18 : Int32), k19 w18 = some ol14 → mm_E (d + 1) 239 (103, [some (.inr (.inr (some (12, 0)))), none, none, some (.inl v15), some (.inl v16), some (.inl v13), some (.inl v17), none, none], [.inl w18], m9) (.inl (some (.inl r.1)), r.2, 0, 0)) hres (fun w18 hres => ?_) (fun k19 hk19 hres => ?_)
                  · refine e_steps 2 (s' := (107, [some (.inr (.inr (some (12, 0)))), none, none, some (.inl v15), some (.inl v16), some (.inl v13), some (.inl v17), some (.inl w18), none], [.inl w18], m9)) rfl ?_
                    refine e_if (s1 := (189, [some (.inr (.inr (some (12, 0)))), none, none, some (.inl v15), some (.inl v16), some (.inl v13), some (.inl v17), some (.inl w18), none], [], m9)) (s2 := (110, [some (.inr (.inr (some (12, 0)))), none, none, some (.inl v15), some (.inl v16), some (.inl v13), some (.inl v17), some (.inl w18), none], [], m9)) rfl hres (fun hc hres => ?_) (fun hc hres => ?_)
                    · refine e_steps 1 (s' := (191, [some (.inr (.inr (some (12, 0)))), none, none, some (.inl v15), some (.inl v16), some (.inl v13), some (.inl v17), some (.inl w18), none], [.inl w18], m9)) rfl ?_
                      refine e_join (fun k21 => ∀ (w20 : Int32), k21 w20 = some ol14 → mm_E (d + 1) 239 (200, [some (.inr (.inr (some (12, 0)))), none, none, none, some (.inl v16), some (.inl v13), some (.inl v17), some (.inl w18), none], [.inl w20], m9) (.inl (some (.inl r.1)), r.2, 0, 0)) hres (fun w20 hres => ?_) (fun k21 hk21 hres => ?_)
                      · refine e_steps 2 (s' := (203, [some (.inr (.inr (some (12, 0)))), none, none, some (.inl w20), some (.inl v16), some (.inl v13), some (.inl v17), some (.inl w18), none], [.inl w18], m9)) rfl ?_
                        refine e_if (s1 := (211, [some (.inr (.inr (some (12, 0)))), none, none, some (.inl w20), some (.inl v16), some (.inl v13), some (.inl v17), some (.inl w18), none], [], m9)) (s2 := (206, [some (.inr (.inr (some (12, 0)))), none, none, some (.inl w20), some (.inl v16), some (.inl v13), some (.inl v17), some (.inl w18), none], [], m9)) rfl hres (fun hc hres => ?_) (fun hc hres => ?_)
                        · refine e_steps 1 (s' := (213, [some (.inr (.inr (some (12, 0)))), none, none, some (.inl w20), some (.inl v16), some (.inl v13), some (.inl v17), some (.inl w18), none], [.inl v16], m9)) rfl ?_
                          refine e_mask (L' := [some (.inr (.inr (some (12, 0)))), none, none, some (.inl w20), none, some (.inl v13), some (.inl v17), none, none]) rfl ?_
                          refine e_steps 2 (s' := (218, [some (.inr (.inr (some (12, 0)))), none, none, some (.inl w20), some (.inl v16), some (.inl v13), some (.inl (v17 + 1)), none, none], [], m9)) rfl ?_
                          refine e_let (fun (v22 : Int32) => (218, [some (.inr (.inr (some (12, 0)))), none, none, some (.inl w20), some (.inl v16), some (.inl v13), some (.inl v22), none, none], [], m9)) hres (fun v22 hres => ?_)
                          refine e_steps 1 (s' := (63, [some (.inr (.inr (some (12, 0)))), none, none, some (.inl w20), some (.inl v16), some (.inl v13), some (.inl v22), none, none], [], m9)) rfl ?_
                          obtain rfl := Option.some.inj hres
                          exact e_mask (L' := [some (.inr (.inr (some (12, 0)))), none, none, some (.inl w20), some (.inl v16), some (.inl v13), some (.inl v22), none, none]) rfl (hcl14 _ rfl)
                        · refine e_steps 2 (s' := (213, [some (.inr (.inr (some (12, 0)))), none, none, some (.inl w20), some (.inl v16), some (.inl v13), some (.inl v17), some (.inl w18), none], [.inl v17], m9)) rfl ?_
                          refine e_mask (L' := [some (.inr (.inr (some (12, 0)))), none, none, some (.inl w20), none, some (.inl v13), some (.inl v17), none, none]) rfl ?_
                          refine e_steps 2 (s' := (218, [some (.inr (.inr (some (12, 0)))), none, none, some (.inl w20), some (.inl v17), some (.inl v13), some (.inl (v17 + 1)), none, none], [], m9)) rfl ?_
                          refine e_let (fun (v23 : Int32) => (218, [some (.inr (.inr (some (12, 0)))), none, none, some (.inl w20), some (.inl v17), some (.inl v13), some (.inl v23), none, none], [], m9)) hres (fun v23 hres => ?_)
                          refine e_steps 1 (s' := (63, [some (.inr (.inr (some (12, 0)))), none, none, some (.inl w20), some (.inl v17), some (.inl v13), some (.inl v23), none, none], [], m9)) rfl ?_
                          obtain rfl := Option.some.inj hres
                          exact e_mask (L' := [some (.inr (.inr (some (12, 0)))), none, none, some (.inl w20), some (.inl v17), some (.inl v13), some (.inl v23), none, none]) rfl (hcl14 _ rfl)
                      · refine e_if (s1 := (199, [some (.inr (.inr (some (12, 0)))), none, none, some (.inl v15), some (.inl v16), some (.inl v13), some (.inl v17), some (.inl w18), none], [], m9)) (s2 := (194, [some (.inr (.inr (some (12, 0)))), none, none, some (.inl v15), some (.inl v16), some (.inl v13), some (.inl v17), some (.inl w18), none], [], m9)) rfl hres (fun hc hres => ?_) (fun hc hres => ?_)
                        · refine e_steps 1 (s' := (200, [some (.inr (.inr (some (12, 0)))), none, none, some (.inl v15), some (.inl v16), some (.inl v13), some (.inl v17), some (.inl w18), none], [.inl v15], m9)) rfl ?_
                          exact e_mask (L' := [some (.inr (.inr (some (12, 0)))), none, none, none, some (.inl v16), some (.inl v13), some (.inl v17), some (.inl w18), none]) rfl (hk21 _ hres)
                        · refine e_steps 2 (s' := (200, [some (.inr (.inr (some (12, 0)))), none, none, some (.inl v15), some (.inl v16), some (.inl v13), some (.inl v17), some (.inl w18), none], [.inl v13], m9)) rfl ?_
                          exact e_mask (L' := [some (.inr (.inr (some (12, 0)))), none, none, none, some (.inl v16), some (.inl v13), some (.inl v17), some (.inl w18), none]) rfl (hk21 _ hres)
                    · refine e_steps 3 (s' := (116, [some (.inr (.inr (some (12, 0)))), none, none, some (.inl v15), some (.inl v16), some (.inl v13), some (.inl v17), some (.inl w18), none], [.inl v13, .inr (.inr (some (119, 0)))], m9)) rfl ?_
                      refine e_gd (s1 := (117, [some (.inr (.inr (some (12, 0)))), none, none, some (.inl v15), some (.inl v16), some (.inl v13), some (.inl v17), some (.inl w18), none], [.inl (m9 119 0 v13.toNatClampNeg)], m9)) rfl hres (fun hc hres => ?_)
                      refine e_steps 3 (s' := (123, [some (.inr (.inr (some (12, 0)))), none, none, some (.inl v15), some (.inl v16), some (.inl v13), some (.inl v17), some (.inl w18), none], [.inl v17, .inr (.inr (some (119, 0))), .inl (m9 119 0 v13.toNatClampNeg)], m9)) rfl ?_
                      refine e_gd (s1 := (124, [some (.inr (.inr (some (12, 0)))), none, none, some (.inl v15), some (.inl v16), some (.inl v13), some (.inl v17), some (.inl w18), none], [.inl (m9 119 0 v17.toNatClampNeg), .inl (m9 119 0 v13.toNatClampNeg)], m9)) rfl hres (fun hc hres => ?_)
                      refine e_steps 4 (s' := (130, [some (.inr (.inr (some (12, 0)))), none, none, some (.inl v15), some (.inl v16), some (.inl v13), some (.inl v17), some (.inl w18), none], [.inl v15, .inr (.inr (some (119, 0))), .inl ((m9 119 0 v13.toNatClampNeg) + (m9 119 0 v17.toNatClampNeg))], m9)) rfl ?_
                      refine e_gd (s1 := (131, [some (.inr (.inr (some (12, 0)))), none, none, some (.inl v15), some (.inl v16), some (.inl v13), some (.inl v17), some (.inl w18), none], [.inl (m9 119 0 v15.toNatClampNeg), .inl ((m9 119 0 v13.toNatClampNeg) + (m9 119 0 v17.toNatClampNeg))], m9)) rfl hres (fun hc hres => ?_)
                      refine e_steps 4 (s' := (138, [some (.inr (.inr (some (12, 0)))), none, none, some (.inl v15), some (.inl v16), some (.inl v13), some (.inl v17), some (.inl w18), none], [.inl v16, .inr (.inr (some (119, 0))), .inl (((m9 119 0 v13.toNatClampNeg) + (m9 119 0 v17.toNatClampNeg)) - (m9 119 0 v15.toNatClampNeg))], m9)) rfl ?_
                      refine e_gd (s1 := (139, [some (.inr (.inr (some (12, 0)))), none, none, some (.inl v15), some (.inl v16), some (.inl v13), some (.inl v17), some (.inl w18), none], [.inl (m9 119 0 v16.toNatClampNeg), .inl (((m9 119 0 v13.toNatClampNeg) + (m9 119 0 v17.toNatClampNeg)) - (m9 119 0 v15.toNatClampNeg))], m9)) rfl hres (fun hc hres => ?_)
                      refine e_steps 2 (s' := (142, [some (.inr (.inr (some (12, 0)))), none, none, some (.inl v15), some (.inl v16), some (.inl v13), some (.inl v17), some (.inl w18), some (.inl ((((m9 119 0 v13.toNatClampNeg) + (m9 119 0 v17.toNatClampNeg)) - (m9 119 0 v15.toNatClampNeg)) - (m9 119 0 v16.toNatClampNeg)))], [], m9)) rfl ?_
                      refine e_let (fun (v24 : Int32) => (142, [some (.inr (.inr (some (12, 0)))), none, none, some (.inl v15), some (.inl v16), some (.inl v13), some (.inl v17), some (.inl w18), some (.inl v24)], [], m9)) hres (fun v24 hres => ?_)
                      refine e_steps 1 (s' := (144, [some (.inr (.inr (some (12, 0)))), none, none, some (.inl v15), some (.inl v16), some (.inl v13), some (.inl v17), some (.inl w18), some (.inl v24)], [.inl v24], m9)) rfl ?_
                      refine e_join (fun k25 => k25 = some ol14 → mm_E (d + 1) 239 (182, [some (.inr (.inr (some (12, 0)))), none, none, some (.inl v15), some (.inl v16), some (.inl v13), some (.inl v17), none, none], [], m9) (.inl (some (.inl r.1)), r.2, 0, 0)) hres (fun  hres => ?_) (fun k25 hk25 hres => ?_)
                      · refine e_steps 4 (s' := (191, [some (.inr (.inr (some (12, 0)))), none, none, some (.inl v15), some (.inl v16), some (.inl v13), some (.inl v17), some (.inl 1), none], [.inl 1], m9)) rfl ?_
                        refine e_join (fun k27 => ∀ (w26 : Int32), k27 w26 = some ol14 → mm_E (d + 1) 239 (200, [some (.inr (.inr (some (12, 0)))), none, none, none, some (.inl v16), some (.inl v13), some (.inl v17), some (.inl 1), none], [.inl w26], m9) (.inl (some (.inl r.1)), r.2, 0, 0)) hres (fun w26 hres => ?_) (fun k27 hk27 hres => ?_)
                        · refine e_steps 2 (s' := (203, [some (.inr (.inr (some (12, 0)))), none, none, some (.inl w26), some (.inl v16), some (.inl v13), some (.inl v17), some (.inl 1), none], [.inl 1], m9)) rfl ?_
                          refine e_steps 3 (s' := (213, [some (.inr (.inr (some (12, 0)))), none, none, some (.inl w26), some (.inl v16), some (.inl v13), some (.inl v17), some (.inl 1), none], [.inl v17], m9)) rfl ?_
                          refine e_mask (L' := [some (.inr (.inr (some (12, 0)))), none, none, some (.inl w26), none, some (.inl v13), some (.inl v17), none, none]) rfl ?_
                          refine e_steps 2 (s' := (218, [some (.inr (.inr (some (12, 0)))), none, none, some (.inl w26), some (.inl v17), some (.inl v13), some (.inl (v17 + 1)), none, none], [], m9)) rfl ?_
                          refine e_let (fun (v28 : Int32) => (218, [some (.inr (.inr (some (12, 0)))), none, none, some (.inl w26), some (.inl v17), some (.inl v13), some (.inl v28), none, none], [], m9)) hres (fun v28 hres => ?_)
                          refine e_steps 1 (s' := (63, [some (.inr (.inr (some (12, 0)))), none, none, some (.inl w26), some (.inl v17), some (.inl v13), some (.inl v28), none, none], [], m9)) rfl ?_
                          obtain rfl := Option.some.inj hres
                          exact e_mask (L' := [some (.inr (.inr (some (12, 0)))), none, none, some (.inl w26), some (.inl v17), some (.inl v13), some (.inl v28), none, none]) rfl (hcl14 _ rfl)
                        · refine e_steps 3 (s' := (200, [some (.inr (.inr (some (12, 0)))), none, none, some (.inl v15), some (.inl v16), some (.inl v13), some (.inl v17), some (.inl 1), none], [.inl v13], m9)) rfl ?_
                          exact e_mask (L' := [some (.inr (.inr (some (12, 0)))), none, none, none, some (.inl v16), some (.inl v13), some (.inl v17), some (.inl 1), none]) rfl (hk27 _ hres)
                      · refine e_if (s1 := (182, [some (.inr (.inr (some (12, 0)))), none, none, some (.inl v15), some (.inl v16), some (.inl v13), some (.inl v17), some (.inl w18), some (.inl v24)], [], m9)) (s2 := (147, [some (.inr (.inr (some (12, 0)))), none, none, some (.inl v15), some (.inl v16), some (.inl v13), some (.inl v17), some (.inl w18), some (.inl v24)], [], m9)) rfl hres (fun hc hres => ?_) (fun hc hres => ?_)
                        · exact e_mask (L' := [some (.inr (.inr (some (12, 0)))), none, none, some (.inl v15), some (.inl v16), some (.inl v13), some (.inl v17), none, none]) rfl (hk25  hres)
                        · refine e_steps 1 (s' := (149, [some (.inr (.inr (some (12, 0)))), none, none, some (.inl v15), some (.inl v16), some (.inl v13), some (.inl v17), some (.inl w18), some (.inl v24)], [.inl v24], m9)) rfl ?_
                          refine e_join (fun k29 => k29 = some ol14 → mm_E (d + 1) 239 (186, [some (.inr (.inr (some (12, 0)))), none, none, some (.inl v15), some (.inl v16), some (.inl v13), some (.inl v17), none, none], [], m9) (.inl (some (.inl r.1)), r.2, 0, 0)) hres (fun  hres => ?_) (fun k29 hk29 hres => ?_)
                          · refine e_steps 3 (s' := (191, [some (.inr (.inr (some (12, 0)))), none, none, some (.inl v15), some (.inl v16), some (.inl v13), some (.inl v17), some (.inl 0), none], [.inl 0], m9)) rfl ?_
                            refine e_join (fun k31 => ∀ (w30 : Int32), k31 w30 = some ol14 → mm_E (d + 1) 239 (200, [some (.inr (.inr (some (12, 0)))), none, none, none, some (.inl v16), some (.inl v13), some (.inl v17), some (.inl 0), none], [.inl w30], m9) (.inl (some (.inl r.1)), r.2, 0, 0)) hres (fun w30 hres => ?_) (fun k31 hk31 hres => ?_)
                            · refine e_steps 2 (s' := (203, [some (.inr (.inr (some (12, 0)))), none, none, some (.inl w30), some (.inl v16), some (.inl v13), some (.inl v17), some (.inl 0), none], [.inl 0], m9)) rfl ?_
                              refine e_steps 2 (s' := (213, [some (.inr (.inr (some (12, 0)))), none, none, some (.inl w30), some (.inl v16), some (.inl v13), some (.inl v17), some (.inl 0), none], [.inl v16], m9)) rfl ?_
                              refine e_mask (L' := [some (.inr (.inr (some (12, 0)))), none, none, some (.inl w30), none, some (.inl v13), some (.inl v17), none, none]) rfl ?_
                              refine e_steps 2 (s' := (218, [some (.inr (.inr (some (12, 0)))), none, none, some (.inl w30), some (.inl v16), some (.inl v13), some (.inl (v17 + 1)), none, none], [], m9)) rfl ?_
                              refine e_let (fun (v32 : Int32) => (218, [some (.inr (.inr (some (12, 0)))), none, none, some (.inl w30), some (.inl v16), some (.inl v13), some (.inl v32), none, none], [], m9)) hres (fun v32 hres => ?_)
                              refine e_steps 1 (s' := (63, [some (.inr (.inr (some (12, 0)))), none, none, some (.inl w30), some (.inl v16), some (.inl v13), some (.inl v32), none, none], [], m9)) rfl ?_
                              obtain rfl := Option.some.inj hres
                              exact e_mask (L' := [some (.inr (.inr (some (12, 0)))), none, none, some (.inl w30), some (.inl v16), some (.inl v13), some (.inl v32), none, none]) rfl (hcl14 _ rfl)
                            · refine e_steps 2 (s' := (200, [some (.inr (.inr (some (12, 0)))), none, none, some (.inl v15), some (.inl v16), some (.inl v13), some (.inl v17), some (.inl 0), none], [.inl v15], m9)) rfl ?_
                              exact e_mask (L' := [some (.inr (.inr (some (12, 0)))), none, none, none, some (.inl v16), some (.inl v13), some (.inl v17), some (.inl 0), none]) rfl (hk31 _ hres)
                          · refine e_if (s1 := (186, [some (.inr (.inr (some (12, 0)))), none, none, some (.inl v15), some (.inl v16), some (.inl v13), some (.inl v17), some (.inl w18), some (.inl v24)], [], m9)) (s2 := (152, [some (.inr (.inr (some (12, 0)))), none, none, some (.inl v15), some (.inl v16), some (.inl v13), some (.inl v17), some (.inl w18), some (.inl v24)], [], m9)) rfl hres (fun hc hres => ?_) (fun hc hres => ?_)
                            · exact e_mask (L' := [some (.inr (.inr (some (12, 0)))), none, none, some (.inl v15), some (.inl v16), some (.inl v13), some (.inl v17), none, none]) rfl (hk29  hres)
                            · refine e_steps 2 (s' := (155, [some (.inr (.inr (some (12, 0)))), none, none, some (.inl v15), some (.inl v16), some (.inl v13), some (.inl v17), some (.inl w18), some (.inl v24)], [.inl v15, .inl v13], m9)) rfl ?_
                              refine e_if (s1 := (172, [some (.inr (.inr (some (12, 0)))), none, none, some (.inl v15), some (.inl v16), some (.inl v13), some (.inl v17), some (.inl w18), some (.inl v24)], [], m9)) (s2 := (158, [some (.inr (.inr (some (12, 0)))), none, none, some (.inl v15), some (.inl v16), some (.inl v13), some (.inl v17), some (.inl w18), some (.inl v24)], [], m9)) rfl hres (fun hc hres => ?_) (fun hc hres => ?_)
                              · refine e_steps 3 (s' := (176, [some (.inr (.inr (some (12, 0)))), none, none, some (.inl v15), some (.inl v16), some (.inl v13), some (.inl v17), some (.inl w18), some (.inl v24)], [.inl v15, .inl v13, .inr (.inr (some (12, 0)))], m9)) rfl ?_
                                obtain ⟨r33, hv, hres⟩ := mm_b1_some hres
                                refine e_call0 (pc := 179) (L := [some (.inr (.inr (some (12, 0)))), none, none, some (.inl v15), some (.inl v16), some (.inl v13), some (.inl v17), some (.inl w18), some (.inl v24)]) (st := []) (m' := m9) (v := some (.inl r33)) rfl (k_X12_isAhead d (by omega) v13 v15 _ _ hv) ?_
                                show mm_E (d + 1) 239 (179, [some (.inr (.inr (some (12, 0)))), none, none, some (.inl v15), some (.inl v16), some (.inl v13), some (.inl v17), some (.inl w18), some (.inl v24)], [.inl r33], m9) (.inl (some (.inl r.1)), r.2, 0, 0)
                                refine e_if (s1 := (186, [some (.inr (.inr (some (12, 0)))), none, none, some (.inl v15), some (.inl v16), some (.inl v13), some (.inl v17), some (.inl w18), some (.inl v24)], [], m9)) (s2 := (182, [some (.inr (.inr (some (12, 0)))), none, none, some (.inl v15), some (.inl v16), some (.inl v13), some (.inl v17), some (.inl w18), some (.inl v24)], [], m9)) rfl hres (fun hc hres => ?_) (fun hc hres => ?_)
                                · exact e_mask (L' := [some (.inr (.inr (some (12, 0)))), none, none, some (.inl v15), some (.inl v16), some (.inl v13), some (.inl v17), none, none]) rfl (hk29  hres)
                                · exact e_mask (L' := [some (.inr (.inr (some (12, 0)))), none, none, some (.inl v15), some (.inl v16), some (.inl v13), some (.inl v17), none, none]) rfl (hk25  hres)
                              · refine e_steps 3 (s' := (163, [some (.inr (.inr (some (12, 0)))), none, none, some (.inl v15), some (.inl v16), some (.inl v13), some (.inl v17), some (.inl w18), some (.inl v24)], [.inl v16, .inl v17, .inr (.inr (some (12, 0)))], m9)) rfl ?_
                                obtain ⟨r34, hv, hres⟩ := mm_b1_some hres
                                refine e_call0 (pc := 166) (L := [some (.inr (.inr (some (12, 0)))), none, none, some (.inl v15), some (.inl v16), some (.inl v13), some (.inl v17), some (.inl w18), some (.inl v24)]) (st := []) (m' := m9) (v := some (.inl r34)) rfl (k_X12_isAhead d (by omega) v17 v16 _ _ hv) ?_
                                show mm_E (d + 1) 239 (166, [some (.inr (.inr (some (12, 0)))), none, none, some (.inl v15), some (.inl v16), some (.inl v13), some (.inl v17), some (.inl w18), some (.inl v24)], [.inl r34], m9) (.inl (some (.inl r.1)), r.2, 0, 0)
                                refine e_if (s1 := (186, [some (.inr (.inr (some (12, 0)))), none, none, some (.inl v15), some (.inl v16), some (.inl v13), some (.inl v17), some (.inl w18), some (.inl v24)], [], m9)) (s2 := (169, [some (.inr (.inr (some (12, 0)))), none, none, some (.inl v15), some (.inl v16), some (.inl v13), some (.inl v17), some (.inl w18), some (.inl v24)], [], m9)) rfl hres (fun hc hres => ?_) (fun hc hres => ?_)
                                · exact e_mask (L' := [some (.inr (.inr (some (12, 0)))), none, none, some (.inl v15), some (.inl v16), some (.inl v13), some (.inl v17), none, none]) rfl (hk29  hres)
                                · refine e_steps 1 (s' := (182, [some (.inr (.inr (some (12, 0)))), none, none, some (.inl v15), some (.inl v16), some (.inl v13), some (.inl v17), some (.inl w18), some (.inl v24)], [], m9)) rfl ?_
                                  exact e_mask (L' := [some (.inr (.inr (some (12, 0)))), none, none, some (.inl v15), some (.inl v16), some (.inl v13), some (.inl v17), none, none]) rfl (hk25  hres)
                  · refine e_if (s1 := (102, [some (.inr (.inr (some (12, 0)))), none, none, some (.inl v15), some (.inl v16), some (.inl v13), some (.inl v17), none, none], [], m9)) (s2 := (98, [some (.inr (.inr (some (12, 0)))), none, none, some (.inl v15), some (.inl v16), some (.inl v13), some (.inl v17), none, none], [], m9)) rfl hres (fun hc hres => ?_) (fun hc hres => ?_)
                    · refine e_steps 1 (s' := (103, [some (.inr (.inr (some (12, 0)))), none, none, some (.inl v15), some (.inl v16), some (.inl v13), some (.inl v17), none, none], [.inl 0], m9)) rfl ?_
                      exact e_mask (L' := [some (.inr (.inr (some (12, 0)))), none, none, some (.inl v15), some (.inl v16), some (.inl v13), some (.inl v17), none, none]) rfl (hk19 _ hres)
                    · refine e_steps 2 (s' := (103, [some (.inr (.inr (some (12, 0)))), none, none, some (.inl v15), some (.inl v16), some (.inl v13), some (.inl v17), none, none], [.inl 1], m9)) rfl ?_
                      exact e_mask (L' := [some (.inr (.inr (some (12, 0)))), none, none, some (.inl v15), some (.inl v16), some (.inl v13), some (.inl v17), none, none]) rfl (hk19 _ hres)
                · refine e_steps 2 (s' := (218, [some (.inr (.inr (some (12, 0)))), none, none, some (.inl v15), some (.inl v16), some (.inl v13), some (.inl (v17 + 1)), none, none], [], m9)) rfl ?_
                  refine e_let (fun (v35 : Int32) => (218, [some (.inr (.inr (some (12, 0)))), none, none, some (.inl v15), some (.inl v16), some (.inl v13), some (.inl v35), none, none], [], m9)) hres (fun v35 hres => ?_)
                  refine e_steps 1 (s' := (63, [some (.inr (.inr (some (12, 0)))), none, none, some (.inl v15), some (.inl v16), some (.inl v13), some (.inl v35), none, none], [], m9)) rfl ?_
                  obtain rfl := Option.some.inj hres
                  exact e_mask (L' := [some (.inr (.inr (some (12, 0)))), none, none, some (.inl v15), some (.inl v16), some (.inl v13), some (.inl v35), none, none]) rfl (hcl14 _ rfl)
      · refine e_steps 1 (s' := (31, [some (.inr (.inr (some (12, 0)))), some (.inl a1), some (.inl a2), none, none, none, none, none, none], [.inl (-1)], m1)) rfl ?_
        obtain rfl := Option.some.inj hres
        exact e_ret rfl rfl
    · refine e_mask (L' := [some (.inr (.inr (some (12, 0)))), none, none, none, none, none, none, none, none]) rfl ?_
      refine e_steps 2 (s' := (21, [some (.inr (.inr (some (12, 0)))), none, none, none, none, none, none, none, none], [.inl 1, .inr (.inr (some (12, 0)))], m1)) rfl ?_
      obtain ⟨r56, m57, hv, hres⟩ := mm_b2_some hres
      refine e_call0 (pc := 24) (L := [some (.inr (.inr (some (12, 0)))), none, none, none, none, none, none, none, none]) (st := []) (m' := m57) (v := some (.inl r56)) rfl (k_X12_fail d (by omega) 1 _ _ hv) ?_
      show mm_E (d + 1) 239 (24, [some (.inr (.inr (some (12, 0)))), none, none, none, none, none, none, none, none], [.inl r56], m57) (.inl (some (.inl r.1)), r.2, 0, 0)
      obtain rfl := Option.some.inj hres
      exact e_ret rfl rfl
/-- GlassThreadsModel.along(I)I -/
def f_X12_along (a1 : Int32) (m : mm_M) : Option (Int32 × mm_M) :=
mm_let (mm_w m 12 0 3 0) fun m1 =>
if a1 ≠ (-1) then (mm_b1 (f_X12_isIn a1 0 ((m1 12 0 80) - 1) m1) fun r2 =>
if r2 = 0 then (mm_b2 (f_X12_fail 1 m1) fun r3 m4 =>
some (r3, m4))
else (if mm_in a1 20 then (
some ((m1 124 0 a1.toNatClampNeg), m1)) else none))
else (some ((m1 12 0 80), m1))
set_option maxHeartbeats 4000000 in
set_option maxRecDepth 100000 in
theorem k_X12_along (d : Nat) (hd : 1 ≤ d) (a1 : Int32) (m : mm_M) (r : Int32 × mm_M) (hres : f_X12_along a1 m = some r) : mm_X d 240 [.inr (.inr (some (12, 0))), .inl a1] m (.inl (some (.inl r.1)), r.2, 0, 0) := by
  unfold f_X12_along at hres
  obtain ⟨d, rfl⟩ : ∃ e, d = e + 1 := ⟨d - 1, by omega⟩
  show mm_E (d + 1) 240 (0, [some (.inr (.inr (some (12, 0)))), some (.inl a1)], [], m) (.inl (some (.inl r.1)), r.2, 0, 0)
  refine e_steps 3 (s' := (5, [some (.inr (.inr (some (12, 0)))), some (.inl a1)], [], (mm_w m 12 0 3 0))) rfl ?_
  refine e_let (fun (m1 : mm_M) => (5, [some (.inr (.inr (some (12, 0)))), some (.inl a1)], [], m1)) hres (fun m1 hres => ?_)
  refine e_steps 2 (s' := (7, [some (.inr (.inr (some (12, 0)))), some (.inl a1)], [.inl (-1), .inl a1], m1)) rfl ?_
  refine e_if (s1 := (15, [some (.inr (.inr (some (12, 0)))), some (.inl a1)], [], m1)) (s2 := (10, [some (.inr (.inr (some (12, 0)))), some (.inl a1)], [], m1)) rfl hres (fun hc hres => ?_) (fun hc hres => ?_)
  · refine e_steps 6 (s' := (23, [some (.inr (.inr (some (12, 0)))), some (.inl a1)], [.inl ((m1 12 0 80) - 1), .inl 0, .inl a1], m1)) rfl ?_
    obtain ⟨r2, hv, hres⟩ := mm_b1_some hres
    refine e_call0 (pc := 26) (L := [some (.inr (.inr (some (12, 0)))), some (.inl a1)]) (st := []) (m' := m1) (v := some (.inl r2)) rfl (k_X12_isIn d (by omega) a1 0 ((m1 12 0 80) - 1) _ _ hv) ?_
    show mm_E (d + 1) 240 (26, [some (.inr (.inr (some (12, 0)))), some (.inl a1)], [.inl r2], m1) (.inl (some (.inl r.1)), r.2, 0, 0)
    refine e_if (s1 := (38, [some (.inr (.inr (some (12, 0)))), some (.inl a1)], [], m1)) (s2 := (29, [some (.inr (.inr (some (12, 0)))), some (.inl a1)], [], m1)) rfl hres (fun hc hres => ?_) (fun hc hres => ?_)
    · refine e_steps 2 (s' := (40, [some (.inr (.inr (some (12, 0)))), some (.inl a1)], [.inl 1, .inr (.inr (some (12, 0)))], m1)) rfl ?_
      obtain ⟨r3, m4, hv, hres⟩ := mm_b2_some hres
      refine e_call0 (pc := 43) (L := [some (.inr (.inr (some (12, 0)))), some (.inl a1)]) (st := []) (m' := m4) (v := some (.inl r3)) rfl (k_X12_fail d (by omega) 1 _ _ hv) ?_
      show mm_E (d + 1) 240 (43, [some (.inr (.inr (some (12, 0)))), some (.inl a1)], [.inl r3], m4) (.inl (some (.inl r.1)), r.2, 0, 0)
      refine e_mask (L' := [none, none]) rfl ?_
      obtain rfl := Option.some.inj hres
      exact e_ret rfl rfl
    · refine e_steps 3 (s' := (34, [some (.inr (.inr (some (12, 0)))), some (.inl a1)], [.inl a1, .inr (.inr (some (124, 0)))], m1)) rfl ?_
      refine e_gd (s1 := (35, [some (.inr (.inr (some (12, 0)))), some (.inl a1)], [.inl (m1 124 0 a1.toNatClampNeg)], m1)) rfl hres (fun hc hres => ?_)
      refine e_steps 1 (s' := (43, [some (.inr (.inr (some (12, 0)))), some (.inl a1)], [.inl (m1 124 0 a1.toNatClampNeg)], m1)) rfl ?_
      refine e_mask (L' := [none, none]) rfl ?_
      obtain rfl := Option.some.inj hres
      exact e_ret rfl rfl
  · refine e_steps 2 (s' := (14, [some (.inr (.inr (some (12, 0)))), some (.inl a1)], [.inl (m1 12 0 80)], m1)) rfl ?_
    obtain rfl := Option.some.inj hres
    exact e_ret rfl rfl
/-- GlassThreadsModel.tellTaskWays()V -/
def f_X12_tellTaskWays  (m : mm_M) : Option (mm_M) :=
mm_b1 (f_X12_tellCosts m) fun m2 =>
(mm_b1 (mm_loop (σ := Int32 × mm_M) (ρ := (mm_M)) (fun (s : Int32 × mm_M) => match s with
| (v4, m5) => (if (m5 12 0 78) ≤ v4 then (some (.inr m5))
else (if mm_in v4 6 then (
if mm_in v4 6 then (
mm_b1 (f_X12_tellWays (m5 117 0 v4.toNatClampNeg) (m5 118 0 v4.toNatClampNeg) 0 m5) fun m7 =>
mm_b1 (f_X12_leastWay m7) fun r8 =>
mm_let (fun (w9 : Int32) => (if mm_in v4 6 then (
mm_let (mm_w m7 125 0 v4.toNatClampNeg w9) fun m11 =>
if mm_in v4 6 then (
mm_let (mm_w m11 126 0 v4.toNatClampNeg 8) fun m12 =>
(mm_b1 (mm_loop (σ := Int32 × mm_M) (ρ := (mm_M)) (fun (s : Int32 × mm_M) => match s with
| (v14, m15) => (if (m15 12 0 77) ≤ v14 then (some (.inr m15))
else (if r8 = (-1) then (some (.inr m15))
else (if mm_in r8 400 then (
if (((m15 122 0 r8.toNatClampNeg) >>> (v14 &&& 31)) &&& 1) ≠ 1 then (mm_let (v14 + 1) fun v16 =>
some (.inl (v16, m15)))
else (if mm_in v4 6 then (
if mm_in v14 10 then (
if mm_in v4 6 then (
mm_let (mm_w m15 126 0 v4.toNatClampNeg (mm_min (m15 126 0 v4.toNatClampNeg) (m15 115 0 v14.toNatClampNeg))) fun m17 =>
mm_let (v14 + 1) fun v18 =>
some (.inl (v18, m17))) else none) else none) else none)) else none)) : Option ((Int32 × mm_M) ⊕ ((mm_M))))) mm_fu (0, m12)) fun m19 =>
mm_let (v4 + 1) fun v20 =>
some (.inl (v20, m19)))) else none) else none : Option ((Int32 × mm_M) ⊕ ((mm_M))))) fun k10 =>
if r8 ≠ (-1) then (if mm_in r8 400 then (
k10 (m7 122 0 r8.toNatClampNeg)) else none)
else (k10 (-1))) else none) else none) : Option ((Int32 × mm_M) ⊕ ((mm_M))))) mm_fu (0, m2)) fun m21 =>
some m21)
set_option maxHeartbeats 4000000 in
set_option maxRecDepth 100000 in
theorem k_X12_tellTaskWays (d : Nat) (hd : 18 ≤ d)  (m : mm_M) (r : mm_M) (hres : f_X12_tellTaskWays  m = some r) : mm_X d 241 [.inr (.inr (some (12, 0)))] m (.inl none, r, 0, 0) := by
  unfold f_X12_tellTaskWays at hres
  obtain ⟨d, rfl⟩ : ∃ e, d = e + 1 := ⟨d - 1, by omega⟩
  show mm_E (d + 1) 241 (0, [some (.inr (.inr (some (12, 0)))), none, none, none], [], m) (.inl none, r, 0, 0)
  refine e_steps 1 (s' := (1, [some (.inr (.inr (some (12, 0)))), none, none, none], [.inr (.inr (some (12, 0)))], m)) rfl ?_
  obtain ⟨m2, hv, hres⟩ := mm_b1_some hres
  refine e_call0 (pc := 4) (L := [some (.inr (.inr (some (12, 0)))), none, none, none]) (st := []) (m' := m2) (v := none) rfl (k_X12_tellCosts d (by omega)  _ _ hv) ?_
  show mm_E (d + 1) 241 (4, [some (.inr (.inr (some (12, 0)))), none, none, none], [], m2) (.inl none, r, 0, 0)
  refine e_steps 2 (s' := (6, [some (.inr (.inr (some (12, 0)))), some (.inl 0), none, none], [], m2)) rfl ?_
  refine e_mask (L' := [some (.inr (.inr (some (12, 0)))), some (.inl 0), none, none]) rfl ?_
  refine e_loopb (φ := fun s => (6, [some (.inr (.inr (some (12, 0)))), some (.inl s.1), none, none], [], s.2)) (K := fun t => mm_E (d + 1) 241 (127, [none, none, none, none], [], t) (.inl none, r, 0, 0)) hres (fun m21 hres => ?_) (fun s ol3 hres hcl3 hxl3 => ?_)
  · show mm_E (d + 1) 241 (127, [none, none, none, none], [], m21) (.inl none, r, 0, 0)
    obtain rfl := Option.some.inj hres
    exact e_ret rfl rfl
  · obtain ⟨v4, m5⟩ := s
    show mm_E (d + 1) 241 (6, [some (.inr (.inr (some (12, 0)))), some (.inl v4), none, none], [], m5) (.inl none, r, 0, 0)
    refine e_steps 3 (s' := (11, [some (.inr (.inr (some (12, 0)))), some (.inl v4), none, none], [.inl (m5 12 0 78), .inl v4], m5)) rfl ?_
    refine e_if (s1 := (127, [some (.inr (.inr (some (12, 0)))), some (.inl v4), none, none], [], m5)) (s2 := (14, [some (.inr (.inr (some (12, 0)))), some (.inl v4), none, none], [], m5)) rfl hres (fun hc hres => ?_) (fun hc hres => ?_)
    · obtain rfl := Option.some.inj hres
      exact e_mask (L' := [none, none, none, none]) rfl (hxl3 _ rfl)
    · refine e_steps 4 (s' := (20, [some (.inr (.inr (some (12, 0)))), some (.inl v4), none, none], [.inl v4, .inr (.inr (some (117, 0))), .inr (.inr (some (12, 0)))], m5)) rfl ?_
      refine e_gd (s1 := (21, [some (.inr (.inr (some (12, 0)))), some (.inl v4), none, none], [.inl (m5 117 0 v4.toNatClampNeg), .inr (.inr (some (12, 0)))], m5)) rfl hres (fun hc hres => ?_)
      refine e_steps 3 (s' := (26, [some (.inr (.inr (some (12, 0)))), some (.inl v4), none, none], [.inl v4, .inr (.inr (some (118, 0))), .inl (m5 117 0 v4.toNatClampNeg), .inr (.inr (some (12, 0)))], m5)) rfl ?_
      refine e_gd (s1 := (27, [some (.inr (.inr (some (12, 0)))), some (.inl v4), none, none], [.inl (m5 118 0 v4.toNatClampNeg), .inl (m5 117 0 v4.toNatClampNeg), .inr (.inr (some (12, 0)))], m5)) rfl hres (fun hc hres => ?_)
      refine e_steps 1 (s' := (28, [some (.inr (.inr (some (12, 0)))), some (.inl v4), none, none], [.inl 0, .inl (m5 118 0 v4.toNatClampNeg), .inl (m5 117 0 v4.toNatClampNeg), .inr (.inr (some (12, 0)))], m5)) rfl ?_
      obtain ⟨m7, hv, hres⟩ := mm_b1_some hres
      refine e_call0 (pc := 31) (L := [some (.inr (.inr (some (12, 0)))), some (.inl v4), none, none]) (st := []) (m' := m7) (v := none) rfl (k_X12_tellWays d (by omega) (m5 117 0 v4.toNatClampNeg) (m5 118 0 v4.toNatClampNeg) 0 _ _ hv) ?_
      show mm_E (d + 1) 241 (31, [some (.inr (.inr (some (12, 0)))), some (.inl v4), none, none], [], m7) (.inl none, r, 0, 0)
      refine e_steps 1 (s' := (32, [some (.inr (.inr (some (12, 0)))), some (.inl v4), none, none], [.inr (.inr (some (12, 0)))], m7)) rfl ?_
      obtain ⟨r8, hv, hres⟩ := mm_b1_some hres
      refine e_call0 (pc := 35) (L := [some (.inr (.inr (some (12, 0)))), some (.inl v4), none, none]) (st := []) (m' := m7) (v := some (.inl r8)) rfl (k_X12_leastWay d (by omega)  _ _ hv) ?_
      show mm_E (d + 1) 241 (35, [some (.inr (.inr (some (12, 0)))), some (.inl v4), none, none], [.inl r8], m7) (.inl none, r, 0, 0)
      refine e_steps 6 (s' := (43, [some (.inr (.inr (some (12, 0)))), some (.inl v4), some (.inl r8), none], [.inl (-1), .inl r8, .inl v4, .inr (.inr (some (125, 0)))], m7)) rfl ?_
      refine e_join (fun k10 => ∀ (w9 : Int32), k10 w9 = some ol3 → mm_E (d + 1) 241 (56, [some (.inr (.inr (some (12, 0)))), some (.inl v4), some (.inl r8), none], [.inl w9, .inl v4, .inr (.inr (some (125, 0)))], m7) (.inl none, r, 0, 0)) hres (fun w9 hres => ?_) (fun k10 hk10 hres => ?_)
      · refine e_gd (s1 := (57, [some (.inr (.inr (some (12, 0)))), some (.inl v4), some (.inl r8), none], [], (mm_w m7 125 0 v4.toNatClampNeg w9))) rfl hres (fun hc hres => ?_)
        refine e_let (fun (m11 : mm_M) => (57, [some (.inr (.inr (some (12, 0)))), some (.inl v4), some (.inl r8), none], [], m11)) hres (fun m11 hres => ?_)
        refine e_steps 4 (s' := (64, [some (.inr (.inr (some (12, 0)))), some (.inl v4), some (.inl r8), none], [.inl 8, .inl v4, .inr (.inr (some (126, 0)))], m11)) rfl ?_
        refine e_gd (s1 := (65, [some (.inr (.inr (some (12, 0)))), some (.inl v4), some (.inl r8), none], [], (mm_w m11 126 0 v4.toNatClampNeg 8))) rfl hres (fun hc hres => ?_)
        refine e_let (fun (m12 : mm_M) => (65, [some (.inr (.inr (some (12, 0)))), some (.inl v4), some (.inl r8), none], [], m12)) hres (fun m12 hres => ?_)
        refine e_steps 2 (s' := (67, [some (.inr (.inr (some (12, 0)))), some (.inl v4), some (.inl r8), some (.inl 0)], [], m12)) rfl ?_
        refine e_mask (L' := [some (.inr (.inr (some (12, 0)))), some (.inl v4), some (.inl r8), some (.inl 0)]) rfl ?_
        refine e_loopb (φ := fun s => (67, [some (.inr (.inr (some (12, 0)))), some (.inl v4), some (.inl r8), some (.inl s.1)], [], s.2)) (K := fun t => mm_E (d + 1) 241 (121, [some (.inr (.inr (some (12, 0)))), some (.inl v4), none, none], [], t) (.inl none, r, 0, 0)) hres (fun m19 hres => ?_) (fun s ol13 hres hcl13 hxl13 => ?_)
        · show mm_E (d + 1) 241 (121, [some (.inr (.inr (some (12, 0)))), some (.inl v4), none, none], [], m19) (.inl none, r, 0, 0)
          refine e_steps 1 (s' := (124, [some (.inr (.inr (some (12, 0)))), some (.inl (v4 + 1)), none, none], [], m19)) rfl ?_
          refine e_let (fun (v20 : Int32) => (124, [some (.inr (.inr (some (12, 0)))), some (.inl v20), none, none], [], m19)) hres (fun v20 hres => ?_)
          refine e_steps 1 (s' := (6, [some (.inr (.inr (some (12, 0)))), some (.inl v20), none, none], [], m19)) rfl ?_
          obtain rfl := Option.some.inj hres
          exact e_mask (L' := [some (.inr (.inr (some (12, 0)))), some (.inl v20), none, none]) rfl (hcl3 _ rfl)
        · obtain ⟨v14, m15⟩ := s
          show mm_E (d + 1) 241 (67, [some (.inr (.inr (some (12, 0)))), some (.inl v4), some (.inl r8), some (.inl v14)], [], m15) (.inl none, r, 0, 0)
          refine e_steps 3 (s' := (72, [some (.inr (.inr (some (12, 0)))), some (.inl v4), some (.inl r8), some (.inl v14)], [.inl (m15 12 0 77), .inl v14], m15)) rfl ?_
          refine e_if (s1 := (121, [some (.inr (.inr (some (12, 0)))), some (.inl v4), some (.inl r8), some (.inl v14)], [], m15)) (s2 := (75, [some (.inr (.inr (some (12, 0)))), some (.inl v4), some (.inl r8), some (.inl v14)], [], m15)) rfl hres (fun hc hres => ?_) (fun hc hres => ?_)
          · obtain rfl := Option.some.inj hres
            exact e_mask (L' := [some (.inr (.inr (some (12, 0)))), some (.inl v4), none, none]) rfl (hxl13 _ rfl)
          · refine e_steps 2 (s' := (77, [some (.inr (.inr (some (12, 0)))), some (.inl v4), some (.inl r8), some (.inl v14)], [.inl (-1), .inl r8], m15)) rfl ?_
            refine e_if (s1 := (121, [some (.inr (.inr (some (12, 0)))), some (.inl v4), some (.inl r8), some (.inl v14)], [], m15)) (s2 := (80, [some (.inr (.inr (some (12, 0)))), some (.inl v4), some (.inl r8), some (.inl v14)], [], m15)) rfl hres (fun hc hres => ?_) (fun hc hres => ?_)
            · obtain rfl := Option.some.inj hres
              exact e_mask (L' := [some (.inr (.inr (some (12, 0)))), some (.inl v4), none, none]) rfl (hxl13 _ rfl)
            · refine e_steps 3 (s' := (85, [some (.inr (.inr (some (12, 0)))), some (.inl v4), some (.inl r8), some (.inl v14)], [.inl r8, .inr (.inr (some (122, 0)))], m15)) rfl ?_
              refine e_gd (s1 := (86, [some (.inr (.inr (some (12, 0)))), some (.inl v4), some (.inl r8), some (.inl v14)], [.inl (m15 122 0 r8.toNatClampNeg)], m15)) rfl hres (fun hc hres => ?_)
              refine e_steps 5 (s' := (91, [some (.inr (.inr (some (12, 0)))), some (.inl v4), some (.inl r8), some (.inl v14)], [.inl 1, .inl (((m15 122 0 r8.toNatClampNeg) >>> (v14 &&& 31)) &&& 1)], m15)) rfl ?_
              refine e_if (s1 := (115, [some (.inr (.inr (some (12, 0)))), some (.inl v4), some (.inl r8), some (.inl v14)], [], m15)) (s2 := (94, [some (.inr (.inr (some (12, 0)))), some (.inl v4), some (.inl r8), some (.inl v14)], [], m15)) rfl hres (fun hc hres => ?_) (fun hc hres => ?_)
              · refine e_steps 1 (s' := (118, [some (.inr (.inr (some (12, 0)))), some (.inl v4), some (.inl r8), some (.inl (v14 + 1))], [], m15)) rfl ?_
                refine e_let (fun (v16 : Int32) => (118, [some (.inr (.inr (some (12, 0)))), some (.inl v4), some (.inl r8), some (.inl v16)], [], m15)) hres (fun v16 hres => ?_)
                refine e_steps 1 (s' := (67, [some (.inr (.inr (some (12, 0)))), some (.inl v4), some (.inl r8), some (.inl v16)], [], m15)) rfl ?_
                obtain rfl := Option.some.inj hres
                exact e_mask (L' := [some (.inr (.inr (some (12, 0)))), some (.inl v4), some (.inl r8), some (.inl v16)]) rfl (hcl13 _ rfl)
              · refine e_steps 6 (s' := (104, [some (.inr (.inr (some (12, 0)))), some (.inl v4), some (.inl r8), some (.inl v14)], [.inl v4, .inr (.inr (some (126, 0))), .inl v4, .inr (.inr (some (126, 0)))], m15)) rfl ?_
                refine e_gd (s1 := (105, [some (.inr (.inr (some (12, 0)))), some (.inl v4), some (.inl r8), some (.inl v14)], [.inl (m15 126 0 v4.toNatClampNeg), .inl v4, .inr (.inr (some (126, 0)))], m15)) rfl hres (fun hc hres => ?_)
                refine e_steps 3 (s' := (110, [some (.inr (.inr (some (12, 0)))), some (.inl v4), some (.inl r8), some (.inl v14)], [.inl v14, .inr (.inr (some (115, 0))), .inl (m15 126 0 v4.toNatClampNeg), .inl v4, .inr (.inr (some (126, 0)))], m15)) rfl ?_
                refine e_gd (s1 := (111, [some (.inr (.inr (some (12, 0)))), some (.inl v4), some (.inl r8), some (.inl v14)], [.inl (m15 115 0 v14.toNatClampNeg), .inl (m15 126 0 v4.toNatClampNeg), .inl v4, .inr (.inr (some (126, 0)))], m15)) rfl hres (fun hc hres => ?_)
                refine e_steps 1 (s' := (114, [some (.inr (.inr (some (12, 0)))), some (.inl v4), some (.inl r8), some (.inl v14)], [.inl (mm_min (m15 126 0 v4.toNatClampNeg) (m15 115 0 v14.toNatClampNeg)), .inl v4, .inr (.inr (some (126, 0)))], m15)) rfl ?_
                refine e_gd (s1 := (115, [some (.inr (.inr (some (12, 0)))), some (.inl v4), some (.inl r8), some (.inl v14)], [], (mm_w m15 126 0 v4.toNatClampNeg (mm_min (m15 126 0 v4.toNatClampNeg) (m15 115 0 v14.toNatClampNeg))))) rfl hres (fun hc hres => ?_)
                refine e_let (fun (m17 : mm_M) => (115, [some (.inr (.inr (some (12, 0)))), some (.inl v4), some (.inl r8), some (.inl v14)], [], m17)) hres (fun m17 hres => ?_)
                refine e_steps 1 (s' := (118, [some (.inr (.inr (some (12, 0)))), some (.inl v4), some (.inl r8), some (.inl (v14 + 1))], [], m17)) rfl ?_
                refine e_let (fun (v18 : Int32) => (118, [some (.inr (.inr (some (12, 0)))), some (.inl v4), some (.inl r8), some (.inl v18)], [], m17)) hres (fun v18 hres => ?_)
                refine e_steps 1 (s' := (67, [some (.inr (.inr (some (12, 0)))), some (.inl v4), some (.inl r8), some (.inl v18)], [], m17)) rfl ?_
                obtain rfl := Option.some.inj hres
                exact e_mask (L' := [some (.inr (.inr (some (12, 0)))), some (.inl v4), some (.inl r8), some (.inl v18)]) rfl (hcl13 _ rfl)
      · refine e_if (s1 := (50, [some (.inr (.inr (some (12, 0)))), some (.inl v4), some (.inl r8), none], [.inl v4, .inr (.inr (some (125, 0)))], m7)) (s2 := (46, [some (.inr (.inr (some (12, 0)))), some (.inl v4), some (.inl r8), none], [.inl v4, .inr (.inr (some (125, 0)))], m7)) rfl hres (fun hc hres => ?_) (fun hc hres => ?_)
        · refine e_steps 3 (s' := (55, [some (.inr (.inr (some (12, 0)))), some (.inl v4), some (.inl r8), none], [.inl r8, .inr (.inr (some (122, 0))), .inl v4, .inr (.inr (some (125, 0)))], m7)) rfl ?_
          refine e_gd (s1 := (56, [some (.inr (.inr (some (12, 0)))), some (.inl v4), some (.inl r8), none], [.inl (m7 122 0 r8.toNatClampNeg), .inl v4, .inr (.inr (some (125, 0)))], m7)) rfl hres (fun hc hres => ?_)
          exact e_mask (L' := [some (.inr (.inr (some (12, 0)))), some (.inl v4), some (.inl r8), none]) rfl (hk10 _ hres)
        · refine e_steps 2 (s' := (56, [some (.inr (.inr (some (12, 0)))), some (.inl v4), some (.inl r8), none], [.inl (-1), .inl v4, .inr (.inr (some (125, 0)))], m7)) rfl ?_
          exact e_mask (L' := [some (.inr (.inr (some (12, 0)))), some (.inl v4), some (.inl r8), none]) rfl (hk10 _ hres)
/-- GlassThreadsModel.deals(II)Z -/
def f_X12_deals : Nat → Int32 → Int32 → mm_M → Option (Int32 × mm_M)
  | 0 => fun _ _ _ => none
  | n + 1 => fun a1 a2 m =>
if a1 ≠ (m 12 0 78) then ((mm_b1 (mm_loop (σ := Int32 × mm_M) (ρ := (mm_M) ⊕ (mm_M)) (fun (s : Int32 × mm_M) => match s with
| (v2, m3) => (if a2 ≤ v2 then (some (.inr (.inr m3)))
else (if mm_in a1 6 then (
if (m3 126 0 a1.toNatClampNeg) ≤ v2 then (some (.inr (.inr m3)))
else ((mm_b1 (mm_loop (σ := Int32 × Int32) (ρ := (Int32)) (fun (s : Int32 × Int32) => match s with
| (v5, v6) => (if a1 ≤ v6 then (some (.inr v5))
else (if v5 = 0 then (mm_let (v6 + 1) fun v7 =>
some (.inl (0, v7)))
else (if mm_in v6 6 then (
if (m3 127 0 v6.toNatClampNeg) ≠ v2 then (mm_let (v6 + 1) fun v8 =>
some (.inl (1, v8)))
else (if mm_in v6 6 then (
if mm_in a1 6 then (
if ((m3 125 0 v6.toNatClampNeg) &&& (m3 125 0 a1.toNatClampNeg)) ≠ 0 then (mm_let (v6 + 1) fun v9 =>
some (.inl (0, v9)))
else (mm_let (v6 + 1) fun v10 =>
some (.inl (1, v10)))) else none) else none)) else none)) : Option ((Int32 × Int32) ⊕ ((Int32))))) mm_fu (1, 0)) fun v11 =>
if mm_in a1 6 then (
mm_let (mm_w m3 127 0 a1.toNatClampNeg v2) fun m12 =>
if v11 = 0 then (mm_let (v2 + 1) fun v13 =>
some (.inl (v13, m12)))
else (mm_b2 (f_X12_deals n (a1 + 1) a2 m12) fun r14 m15 =>
if r14 = 0 then (mm_let (v2 + 1) fun v16 =>
some (.inl (v16, m15)))
else (some (.inr (.inl m15))))) else none))) else none) : Option ((Int32 × mm_M) ⊕ ((mm_M) ⊕ (mm_M))))) mm_fu (0, m)) fun t => match t with
| .inl m17 => some (1, m17)
| .inr m18 => some (0, m18)))
else (some (1, m))
set_option maxHeartbeats 4000000 in
set_option maxRecDepth 100000 in
theorem k_X12_deals (n : Nat) : ∀ (d : Nat) (hd : 0 + 1 * n ≤ d) (a1 : Int32) (a2 : Int32) (m : mm_M) (r : Int32 × mm_M) (hres : f_X12_deals n a1 a2 m = some r), mm_X d 242 [.inr (.inr (some (12, 0))), .inl a1, .inl a2] m (.inl (some (.inl r.1)), r.2, 0, 0) := by
  induction n with
  | zero => intro d hd a1 a2 m r hres; cases hres
  | succ n ih =>
    intro d hd a1 a2 m r hres
    have hRF : ∀ (a1 : Int32) (a2 : Int32) (m : mm_M) (r : Int32 × mm_M), f_X12_deals n a1 a2 m = some r → ∀ d, (0 + 1 * n) ≤ d → mm_X d 242 [.inr (.inr (some (12, 0))), .inl a1, .inl a2] m (.inl (some (.inl r.1)), r.2, 0, 0) := fun a1 a2 m r h d hd => ih d hd a1 a2 m r h
    obtain ⟨d, rfl⟩ : ∃ e, d = e + 1 := ⟨d - 1, by omega⟩
    show mm_E (d + 1) 242 (0, [some (.inr (.inr (some (12, 0)))), some (.inl a1), some (.inl a2), none, none, none], [], m) (.inl (some (.inl r.1)), r.2, 0, 0)
    refine e_steps 3 (s' := (5, [some (.inr (.inr (some (12, 0)))), some (.inl a1), some (.inl a2), none, none, none], [.inl (m 12 0 78), .inl a1], m)) rfl ?_
    refine e_if (s1 := (10, [some (.inr (.inr (some (12, 0)))), some (.inl a1), some (.inl a2), none, none, none], [], m)) (s2 := (8, [some (.inr (.inr (some (12, 0)))), some (.inl a1), some (.inl a2), none, none, none], [], m)) rfl hres (fun hc hres => ?_) (fun hc hres => ?_)
    · refine e_steps 2 (s' := (12, [some (.inr (.inr (some (12, 0)))), some (.inl a1), some (.inl a2), some (.inl 0), none, none], [], m)) rfl ?_
      refine e_mask (L' := [some (.inr (.inr (some (12, 0)))), some (.inl a1), some (.inl a2), some (.inl 0), none, none]) rfl ?_
      refine e_loopb (φ := fun s => (12, [some (.inr (.inr (some (12, 0)))), some (.inl a1), some (.inl a2), some (.inl s.1), none, none], [], s.2)) (K := fun t => match t with | .inl t => mm_E (d + 1) 242 (108, [none, none, none, none, none, none], [], t) (.inl (some (.inl r.1)), r.2, 0, 0) | .inr t => mm_E (d + 1) 242 (116, [none, none, none, none, none, none], [], t) (.inl (some (.inl r.1)), r.2, 0, 0)) hres (fun t hres => ?_) (fun s ol1 hres hcl1 hxl1 => ?_)
      · rcases t with m17 | m18
        · show mm_E (d + 1) 242 (108, [none, none, none, none, none, none], [], m17) (.inl (some (.inl r.1)), r.2, 0, 0)
          refine e_steps 1 (s' := (109, [none, none, none, none, none, none], [.inl 1], m17)) rfl ?_
          obtain rfl := Option.some.inj hres
          exact e_ret rfl rfl
        · show mm_E (d + 1) 242 (116, [none, none, none, none, none, none], [], m18) (.inl (some (.inl r.1)), r.2, 0, 0)
          refine e_steps 1 (s' := (117, [none, none, none, none, none, none], [.inl 0], m18)) rfl ?_
          obtain rfl := Option.some.inj hres
          exact e_ret rfl rfl
      · obtain ⟨v2, m3⟩ := s
        show mm_E (d + 1) 242 (12, [some (.inr (.inr (some (12, 0)))), some (.inl a1), some (.inl a2), some (.inl v2), none, none], [], m3) (.inl (some (.inl r.1)), r.2, 0, 0)
        refine e_steps 2 (s' := (14, [some (.inr (.inr (some (12, 0)))), some (.inl a1), some (.inl a2), some (.inl v2), none, none], [.inl a2, .inl v2], m3)) rfl ?_
        refine e_if (s1 := (116, [some (.inr (.inr (some (12, 0)))), some (.inl a1), some (.inl a2), some (.inl v2), none, none], [], m3)) (s2 := (17, [some (.inr (.inr (some (12, 0)))), some (.inl a1), some (.inl a2), some (.inl v2), none, none], [], m3)) rfl hres (fun hc hres => ?_) (fun hc hres => ?_)
        · obtain rfl := Option.some.inj hres
          exact e_mask (L' := [none, none, none, none, none, none]) rfl (hxl1 _ rfl)
        · refine e_steps 4 (s' := (23, [some (.inr (.inr (some (12, 0)))), some (.inl a1), some (.inl a2), some (.inl v2), none, none], [.inl a1, .inr (.inr (some (126, 0))), .inl v2], m3)) rfl ?_
          refine e_gd (s1 := (24, [some (.inr (.inr (some (12, 0)))), some (.inl a1), some (.inl a2), some (.inl v2), none, none], [.inl (m3 126 0 a1.toNatClampNeg), .inl v2], m3)) rfl hres (fun hc hres => ?_)
          refine e_if (s1 := (116, [some (.inr (.inr (some (12, 0)))), some (.inl a1), some (.inl a2), some (.inl v2), none, none], [], m3)) (s2 := (27, [some (.inr (.inr (some (12, 0)))), some (.inl a1), some (.inl a2), some (.inl v2), none, none], [], m3)) rfl hres (fun hc hres => ?_) (fun hc hres => ?_)
          · obtain rfl := Option.some.inj hres
            exact e_mask (L' := [none, none, none, none, none, none]) rfl (hxl1 _ rfl)
          · refine e_steps 4 (s' := (33, [some (.inr (.inr (some (12, 0)))), some (.inl a1), some (.inl a2), some (.inl v2), some (.inl 1), some (.inl 0)], [], m3)) rfl ?_
            refine e_mask (L' := [some (.inr (.inr (some (12, 0)))), some (.inl a1), some (.inl a2), some (.inl v2), some (.inl 1), some (.inl 0)]) rfl ?_
            refine e_loopb (φ := fun s => (33, [some (.inr (.inr (some (12, 0)))), some (.inl a1), some (.inl a2), some (.inl v2), some (.inl s.1), some (.inl s.2)], [], m3)) (K := fun t => mm_E (d + 1) 242 (85, [some (.inr (.inr (some (12, 0)))), some (.inl a1), some (.inl a2), some (.inl v2), some (.inl t), none], [], m3) (.inl (some (.inl r.1)), r.2, 0, 0)) hres (fun v11 hres => ?_) (fun s ol4 hres hcl4 hxl4 => ?_)
            · show mm_E (d + 1) 242 (85, [some (.inr (.inr (some (12, 0)))), some (.inl a1), some (.inl a2), some (.inl v2), some (.inl v11), none], [], m3) (.inl (some (.inl r.1)), r.2, 0, 0)
              refine e_steps 4 (s' := (91, [some (.inr (.inr (some (12, 0)))), some (.inl a1), some (.inl a2), some (.inl v2), some (.inl v11), none], [.inl v2, .inl a1, .inr (.inr (some (127, 0)))], m3)) rfl ?_
              refine e_gd (s1 := (92, [some (.inr (.inr (some (12, 0)))), some (.inl a1), some (.inl a2), some (.inl v2), some (.inl v11), none], [], (mm_w m3 127 0 a1.toNatClampNeg v2))) rfl hres (fun hc hres => ?_)
              refine e_let (fun (m12 : mm_M) => (92, [some (.inr (.inr (some (12, 0)))), some (.inl a1), some (.inl a2), some (.inl v2), some (.inl v11), none], [], m12)) hres (fun m12 hres => ?_)
              refine e_steps 1 (s' := (94, [some (.inr (.inr (some (12, 0)))), some (.inl a1), some (.inl a2), some (.inl v2), some (.inl v11), none], [.inl v11], m12)) rfl ?_
              refine e_if (s1 := (110, [some (.inr (.inr (some (12, 0)))), some (.inl a1), some (.inl a2), some (.inl v2), some (.inl v11), none], [], m12)) (s2 := (97, [some (.inr (.inr (some (12, 0)))), some (.inl a1), some (.inl a2), some (.inl v2), some (.inl v11), none], [], m12)) rfl hres (fun hc hres => ?_) (fun hc hres => ?_)
              · refine e_mask (L' := [some (.inr (.inr (some (12, 0)))), some (.inl a1), some (.inl a2), some (.inl v2), none, none]) rfl ?_
                refine e_steps 1 (s' := (113, [some (.inr (.inr (some (12, 0)))), some (.inl a1), some (.inl a2), some (.inl (v2 + 1)), none, none], [], m12)) rfl ?_
                refine e_let (fun (v13 : Int32) => (113, [some (.inr (.inr (some (12, 0)))), some (.inl a1), some (.inl a2), some (.inl v13), none, none], [], m12)) hres (fun v13 hres => ?_)
                refine e_steps 1 (s' := (12, [some (.inr (.inr (some (12, 0)))), some (.inl a1), some (.inl a2), some (.inl v13), none, none], [], m12)) rfl ?_
                obtain rfl := Option.some.inj hres
                exact e_mask (L' := [some (.inr (.inr (some (12, 0)))), some (.inl a1), some (.inl a2), some (.inl v13), none, none]) rfl (hcl1 _ rfl)
              · refine e_steps 5 (s' := (102, [some (.inr (.inr (some (12, 0)))), some (.inl a1), some (.inl a2), some (.inl v2), some (.inl v11), none], [.inl a2, .inl (a1 + 1), .inr (.inr (some (12, 0)))], m12)) rfl ?_
                obtain ⟨r14, m15, hv, hres⟩ := mm_b2_some hres
                refine e_call0 (pc := 105) (L := [some (.inr (.inr (some (12, 0)))), some (.inl a1), some (.inl a2), some (.inl v2), some (.inl v11), none]) (st := []) (m' := m15) (v := some (.inl r14)) rfl (hRF (a1 + 1) a2 _ _ hv d (by omega)) ?_
                show mm_E (d + 1) 242 (105, [some (.inr (.inr (some (12, 0)))), some (.inl a1), some (.inl a2), some (.inl v2), some (.inl v11), none], [.inl r14], m15) (.inl (some (.inl r.1)), r.2, 0, 0)
                refine e_if (s1 := (110, [some (.inr (.inr (some (12, 0)))), some (.inl a1), some (.inl a2), some (.inl v2), some (.inl v11), none], [], m15)) (s2 := (108, [some (.inr (.inr (some (12, 0)))), some (.inl a1), some (.inl a2), some (.inl v2), some (.inl v11), none], [], m15)) rfl hres (fun hc hres => ?_) (fun hc hres => ?_)
                · refine e_mask (L' := [some (.inr (.inr (some (12, 0)))), some (.inl a1), some (.inl a2), some (.inl v2), none, none]) rfl ?_
                  refine e_steps 1 (s' := (113, [some (.inr (.inr (some (12, 0)))), some (.inl a1), some (.inl a2), some (.inl (v2 + 1)), none, none], [], m15)) rfl ?_
                  refine e_let (fun (v16 : Int32) => (113, [some (.inr (.inr (some (12, 0)))), some (.inl a1), some (.inl a2), some (.inl v16), none, none], [], m15)) hres (fun v16 hres => ?_)
                  refine e_steps 1 (s' := (12, [some (.inr (.inr (some (12, 0)))), some (.inl a1), some (.inl a2), some (.inl v16), none, none], [], m15)) rfl ?_
                  obtain rfl := Option.some.inj hres
                  exact e_mask (L' := [some (.inr (.inr (some (12, 0)))), some (.inl a1), some (.inl a2), some (.inl v16), none, none]) rfl (hcl1 _ rfl)
                · obtain rfl := Option.some.inj hres
                  exact e_mask (L' := [none, none, none, none, none, none]) rfl (hxl1 _ rfl)
            · obtain ⟨v5, v6⟩ := s
              show mm_E (d + 1) 242 (33, [some (.inr (.inr (some (12, 0)))), some (.inl a1), some (.inl a2), some (.inl v2), some (.inl v5), some (.inl v6)], [], m3) (.inl (some (.inl r.1)), r.2, 0, 0)
              refine e_steps 2 (s' := (36, [some (.inr (.inr (some (12, 0)))), some (.inl a1), some (.inl a2), some (.inl v2), some (.inl v5), some (.inl v6)], [.inl a1, .inl v6], m3)) rfl ?_
              refine e_if (s1 := (85, [some (.inr (.inr (some (12, 0)))), some (.inl a1), some (.inl a2), some (.inl v2), some (.inl v5), some (.inl v6)], [], m3)) (s2 := (39, [some (.inr (.inr (some (12, 0)))), some (.inl a1), some (.inl a2), some (.inl v2), some (.inl v5), some (.inl v6)], [], m3)) rfl hres (fun hc hres => ?_) (fun hc hres => ?_)
              · obtain rfl := Option.some.inj hres
                exact e_mask (L' := [some (.inr (.inr (some (12, 0)))), some (.inl a1), some (.inl a2), some (.inl v2), some (.inl v5), none]) rfl (hxl4 _ rfl)
              · refine e_steps 1 (s' := (41, [some (.inr (.inr (some (12, 0)))), some (.inl a1), some (.inl a2), some (.inl v2), some (.inl v5), some (.inl v6)], [.inl v5], m3)) rfl ?_
                refine e_if (s1 := (76, [some (.inr (.inr (some (12, 0)))), some (.inl a1), some (.inl a2), some (.inl v2), some (.inl v5), some (.inl v6)], [], m3)) (s2 := (44, [some (.inr (.inr (some (12, 0)))), some (.inl a1), some (.inl a2), some (.inl v2), some (.inl v5), some (.inl v6)], [], m3)) rfl hres (fun hc hres => ?_) (fun hc hres => ?_)
                · refine e_mask (L' := [some (.inr (.inr (some (12, 0)))), some (.inl a1), some (.inl a2), some (.inl v2), none, some (.inl v6)]) rfl ?_
                  refine e_steps 3 (s' := (82, [some (.inr (.inr (some (12, 0)))), some (.inl a1), some (.inl a2), some (.inl v2), some (.inl 0), some (.inl (v6 + 1))], [], m3)) rfl ?_
                  refine e_let (fun (v7 : Int32) => (82, [some (.inr (.inr (some (12, 0)))), some (.inl a1), some (.inl a2), some (.inl v2), some (.inl 0), some (.inl v7)], [], m3)) hres (fun v7 hres => ?_)
                  refine e_steps 1 (s' := (33, [some (.inr (.inr (some (12, 0)))), some (.inl a1), some (.inl a2), some (.inl v2), some (.inl 0), some (.inl v7)], [], m3)) rfl ?_
                  obtain rfl := Option.some.inj hres
                  exact e_mask (L' := [some (.inr (.inr (some (12, 0)))), some (.inl a1), some (.inl a2), some (.inl v2), some (.inl 0), some (.inl v7)]) rfl (hcl4 _ rfl)
                · refine e_steps 3 (s' := (50, [some (.inr (.inr (some (12, 0)))), some (.inl a1), some (.inl a2), some (.inl v2), some (.inl v5), some (.inl v6)], [.inl v6, .inr (.inr (some (127, 0)))], m3)) rfl ?_
                  refine e_gd (s1 := (51, [some (.inr (.inr (some (12, 0)))), some (.inl a1), some (.inl a2), some (.inl v2), some (.inl v5), some (.inl v6)], [.inl (m3 127 0 v6.toNatClampNeg)], m3)) rfl hres (fun hc hres => ?_)
                  refine e_steps 1 (s' := (52, [some (.inr (.inr (some (12, 0)))), some (.inl a1), some (.inl a2), some (.inl v2), some (.inl v5), some (.inl v6)], [.inl v2, .inl (m3 127 0 v6.toNatClampNeg)], m3)) rfl ?_
                  refine e_if (s1 := (72, [some (.inr (.inr (some (12, 0)))), some (.inl a1), some (.inl a2), some (.inl v2), some (.inl v5), some (.inl v6)], [], m3)) (s2 := (55, [some (.inr (.inr (some (12, 0)))), some (.inl a1), some (.inl a2), some (.inl v2), some (.inl v5), some (.inl v6)], [], m3)) rfl hres (fun hc hres => ?_) (fun hc hres => ?_)
                  · refine e_mask (L' := [some (.inr (.inr (some (12, 0)))), some (.inl a1), some (.inl a2), some (.inl v2), none, some (.inl v6)]) rfl ?_
                    refine e_steps 4 (s' := (82, [some (.inr (.inr (some (12, 0)))), some (.inl a1), some (.inl a2), some (.inl v2), some (.inl 1), some (.inl (v6 + 1))], [], m3)) rfl ?_
                    refine e_let (fun (v8 : Int32) => (82, [some (.inr (.inr (some (12, 0)))), some (.inl a1), some (.inl a2), some (.inl v2), some (.inl 1), some (.inl v8)], [], m3)) hres (fun v8 hres => ?_)
                    refine e_steps 1 (s' := (33, [some (.inr (.inr (some (12, 0)))), some (.inl a1), some (.inl a2), some (.inl v2), some (.inl 1), some (.inl v8)], [], m3)) rfl ?_
                    obtain rfl := Option.some.inj hres
                    exact e_mask (L' := [some (.inr (.inr (some (12, 0)))), some (.inl a1), some (.inl a2), some (.inl v2), some (.inl 1), some (.inl v8)]) rfl (hcl4 _ rfl)
                  · refine e_steps 3 (s' := (61, [some (.inr (.inr (some (12, 0)))), some (.inl a1), some (.inl a2), some (.inl v2), some (.inl v5), some (.inl v6)], [.inl v6, .inr (.inr (some (125, 0)))], m3)) rfl ?_
                    refine e_gd (s1 := (62, [some (.inr (.inr (some (12, 0)))), some (.inl a1), some (.inl a2), some (.inl v2), some (.inl v5), some (.inl v6)], [.inl (m3 125 0 v6.toNatClampNeg)], m3)) rfl hres (fun hc hres => ?_)
                    refine e_steps 3 (s' := (67, [some (.inr (.inr (some (12, 0)))), some (.inl a1), some (.inl a2), some (.inl v2), some (.inl v5), some (.inl v6)], [.inl a1, .inr (.inr (some (125, 0))), .inl (m3 125 0 v6.toNatClampNeg)], m3)) rfl ?_
                    refine e_gd (s1 := (68, [some (.inr (.inr (some (12, 0)))), some (.inl a1), some (.inl a2), some (.inl v2), some (.inl v5), some (.inl v6)], [.inl (m3 125 0 a1.toNatClampNeg), .inl (m3 125 0 v6.toNatClampNeg)], m3)) rfl hres (fun hc hres => ?_)
                    refine e_steps 1 (s' := (69, [some (.inr (.inr (some (12, 0)))), some (.inl a1), some (.inl a2), some (.inl v2), some (.inl v5), some (.inl v6)], [.inl ((m3 125 0 v6.toNatClampNeg) &&& (m3 125 0 a1.toNatClampNeg))], m3)) rfl ?_
                    refine e_if (s1 := (76, [some (.inr (.inr (some (12, 0)))), some (.inl a1), some (.inl a2), some (.inl v2), some (.inl v5), some (.inl v6)], [], m3)) (s2 := (72, [some (.inr (.inr (some (12, 0)))), some (.inl a1), some (.inl a2), some (.inl v2), some (.inl v5), some (.inl v6)], [], m3)) rfl hres (fun hc hres => ?_) (fun hc hres => ?_)
                    · refine e_mask (L' := [some (.inr (.inr (some (12, 0)))), some (.inl a1), some (.inl a2), some (.inl v2), none, some (.inl v6)]) rfl ?_
                      refine e_steps 3 (s' := (82, [some (.inr (.inr (some (12, 0)))), some (.inl a1), some (.inl a2), some (.inl v2), some (.inl 0), some (.inl (v6 + 1))], [], m3)) rfl ?_
                      refine e_let (fun (v9 : Int32) => (82, [some (.inr (.inr (some (12, 0)))), some (.inl a1), some (.inl a2), some (.inl v2), some (.inl 0), some (.inl v9)], [], m3)) hres (fun v9 hres => ?_)
                      refine e_steps 1 (s' := (33, [some (.inr (.inr (some (12, 0)))), some (.inl a1), some (.inl a2), some (.inl v2), some (.inl 0), some (.inl v9)], [], m3)) rfl ?_
                      obtain rfl := Option.some.inj hres
                      exact e_mask (L' := [some (.inr (.inr (some (12, 0)))), some (.inl a1), some (.inl a2), some (.inl v2), some (.inl 0), some (.inl v9)]) rfl (hcl4 _ rfl)
                    · refine e_mask (L' := [some (.inr (.inr (some (12, 0)))), some (.inl a1), some (.inl a2), some (.inl v2), none, some (.inl v6)]) rfl ?_
                      refine e_steps 4 (s' := (82, [some (.inr (.inr (some (12, 0)))), some (.inl a1), some (.inl a2), some (.inl v2), some (.inl 1), some (.inl (v6 + 1))], [], m3)) rfl ?_
                      refine e_let (fun (v10 : Int32) => (82, [some (.inr (.inr (some (12, 0)))), some (.inl a1), some (.inl a2), some (.inl v2), some (.inl 1), some (.inl v10)], [], m3)) hres (fun v10 hres => ?_)
                      refine e_steps 1 (s' := (33, [some (.inr (.inr (some (12, 0)))), some (.inl a1), some (.inl a2), some (.inl v2), some (.inl 1), some (.inl v10)], [], m3)) rfl ?_
                      obtain rfl := Option.some.inj hres
                      exact e_mask (L' := [some (.inr (.inr (some (12, 0)))), some (.inl a1), some (.inl a2), some (.inl v2), some (.inl 1), some (.inl v10)]) rfl (hcl4 _ rfl)
    · refine e_steps 1 (s' := (9, [some (.inr (.inr (some (12, 0)))), some (.inl a1), some (.inl a2), none, none, none], [.inl 1], m)) rfl ?_
      obtain rfl := Option.some.inj hres
      exact e_ret rfl rfl
/-- GlassThreadsModel.deal()I -/
def f_X12_deal  (m : mm_M) : Option (Int32 × mm_M) :=
mm_let (mm_w m 12 0 3 0) fun m1 =>
mm_b1 (f_X12_tellTaskWays m1) fun m3 =>
(mm_b1 (mm_loop (σ := Int32) (ρ := (Unit) ⊕ (Unit)) (fun (v5 : Int32) => (if (m3 12 0 78) ≤ v5 then (some (.inr (.inr ())))
else (if mm_in v5 6 then (
if (m3 125 0 v5.toNatClampNeg) ≠ (-1) then (mm_let (v5 + 1) fun v6 =>
some (.inl v6))
else (some (.inr (.inl ())))) else none) : Option ((Int32) ⊕ ((Unit) ⊕ (Unit))))) mm_fu 0) fun t => match t with
| .inl _ => some ((-1), m3)
| .inr _ => if (m3 12 0 78) ≠ 0 then ((mm_b1 (mm_loop (σ := Int32 × mm_M) (ρ := (Int32 × mm_M)) (fun (s : Int32 × mm_M) => match s with
| (v8, m9) => (if 8 < v8 then (some (.inr (v8, m9)))
else (mm_b2 (f_X12_deals 16 0 v8 m9) fun r10 m11 =>
if r10 ≠ 0 then (some (.inr (v8, m11)))
else (mm_let (v8 + 1) fun v12 =>
some (.inl (v12, m11)))) : Option ((Int32 × mm_M) ⊕ ((Int32 × mm_M))))) mm_fu (1, m3)) fun t => match t with
| (v13, m14) => if v13 ≤ 8 then (mm_let (mm_w m14 12 0 94 (m14 12 0 78)) fun m15 =>
(mm_b1 (mm_loop (σ := Int32 × mm_M) (ρ := (mm_M)) (fun (s : Int32 × mm_M) => match s with
| (v17, m18) => (if (m18 12 0 78) ≤ v17 then (some (.inr m18))
else (if mm_in v17 6 then (
if mm_in v17 6 then (
mm_let (mm_w m18 128 0 v17.toNatClampNeg (m18 127 0 v17.toNatClampNeg)) fun m19 =>
mm_let (v17 + 1) fun v20 =>
some (.inl (v20, m19))) else none) else none) : Option ((Int32 × mm_M) ⊕ ((mm_M))))) mm_fu (0, m15)) fun m21 =>
some (v13, m21)))
else (some ((-1), m14))))
else ((mm_b1 (mm_loop (σ := Int32 × mm_M) (ρ := (Int32 × mm_M)) (fun (s : Int32 × mm_M) => match s with
| (v23, m24) => (if 8 < v23 then (some (.inr (v23, m24)))
else (mm_b2 (f_X12_deals 16 0 v23 m24) fun r25 m26 =>
if r25 ≠ 0 then (some (.inr (v23, m26)))
else (mm_let (v23 + 1) fun v27 =>
some (.inl (v27, m26)))) : Option ((Int32 × mm_M) ⊕ ((Int32 × mm_M))))) mm_fu (0, m3)) fun t => match t with
| (v28, m29) => if v28 ≤ 8 then (mm_let (mm_w m29 12 0 94 (m29 12 0 78)) fun m30 =>
(mm_b1 (mm_loop (σ := Int32 × mm_M) (ρ := (mm_M)) (fun (s : Int32 × mm_M) => match s with
| (v32, m33) => (if (m33 12 0 78) ≤ v32 then (some (.inr m33))
else (if mm_in v32 6 then (
if mm_in v32 6 then (
mm_let (mm_w m33 128 0 v32.toNatClampNeg (m33 127 0 v32.toNatClampNeg)) fun m34 =>
mm_let (v32 + 1) fun v35 =>
some (.inl (v35, m34))) else none) else none) : Option ((Int32 × mm_M) ⊕ ((mm_M))))) mm_fu (0, m30)) fun m36 =>
some (v28, m36)))
else (some ((-1), m29)))))
set_option maxHeartbeats 4000000 in
set_option maxRecDepth 100000 in
theorem k_X12_deal (d : Nat) (hd : 19 ≤ d)  (m : mm_M) (r : Int32 × mm_M) (hres : f_X12_deal  m = some r) : mm_X d 243 [.inr (.inr (some (12, 0)))] m (.inl (some (.inl r.1)), r.2, 0, 0) := by
  unfold f_X12_deal at hres
  obtain ⟨d, rfl⟩ : ∃ e, d = e + 1 := ⟨d - 1, by omega⟩
  show mm_E (d + 1) 243 (0, [some (.inr (.inr (some (12, 0)))), none, none], [], m) (.inl (some (.inl r.1)), r.2, 0, 0)
  refine e_steps 3 (s' := (5, [some (.inr (.inr (some (12, 0)))), none, none], [], (mm_w m 12 0 3 0))) rfl ?_
  refine e_let (fun (m1 : mm_M) => (5, [some (.inr (.inr (some (12, 0)))), none, none], [], m1)) hres (fun m1 hres => ?_)
  refine e_steps 1 (s' := (6, [some (.inr (.inr (some (12, 0)))), none, none], [.inr (.inr (some (12, 0)))], m1)) rfl ?_
  obtain ⟨m3, hv, hres⟩ := mm_b1_some hres
  refine e_call0 (pc := 9) (L := [some (.inr (.inr (some (12, 0)))), none, none]) (st := []) (m' := m3) (v := none) rfl (k_X12_tellTaskWays d (by omega)  _ _ hv) ?_
  show mm_E (d + 1) 243 (9, [some (.inr (.inr (some (12, 0)))), none, none], [], m3) (.inl (some (.inl r.1)), r.2, 0, 0)
  refine e_steps 2 (s' := (11, [some (.inr (.inr (some (12, 0)))), some (.inl 0), none], [], m3)) rfl ?_
  refine e_mask (L' := [some (.inr (.inr (some (12, 0)))), some (.inl 0), none]) rfl ?_
  refine e_loopb (φ := fun s => (11, [some (.inr (.inr (some (12, 0)))), some (.inl s), none], [], m3)) (K := fun t => match t with | .inl t => mm_E (d + 1) 243 (29, [none, none, none], [], m3) (.inl (some (.inl r.1)), r.2, 0, 0) | .inr t => mm_E (d + 1) 243 (37, [some (.inr (.inr (some (12, 0)))), none, none], [], m3) (.inl (some (.inl r.1)), r.2, 0, 0)) hres (fun t hres => ?_) (fun v5 ol4 hres hcl4 hxl4 => ?_)
  · rcases t with _ | _
    · show mm_E (d + 1) 243 (29, [none, none, none], [], m3) (.inl (some (.inl r.1)), r.2, 0, 0)
      refine e_steps 1 (s' := (30, [none, none, none], [.inl (-1)], m3)) rfl ?_
      obtain rfl := Option.some.inj hres
      exact e_ret rfl rfl
    · show mm_E (d + 1) 243 (37, [some (.inr (.inr (some (12, 0)))), none, none], [], m3) (.inl (some (.inl r.1)), r.2, 0, 0)
      refine e_steps 2 (s' := (41, [some (.inr (.inr (some (12, 0)))), none, none], [.inl (m3 12 0 78)], m3)) rfl ?_
      refine e_if (s1 := (48, [some (.inr (.inr (some (12, 0)))), none, none], [], m3)) (s2 := (44, [some (.inr (.inr (some (12, 0)))), none, none], [], m3)) rfl hres (fun hc hres => ?_) (fun hc hres => ?_)
      · refine e_steps 2 (s' := (50, [some (.inr (.inr (some (12, 0)))), some (.inl 1), none], [], m3)) rfl ?_
        refine e_mask (L' := [some (.inr (.inr (some (12, 0)))), some (.inl 1), none]) rfl ?_
        refine e_loopb (φ := fun s => (50, [some (.inr (.inr (some (12, 0)))), some (.inl s.1), none], [], s.2)) (K := fun t => mm_E (d + 1) 243 (71, [some (.inr (.inr (some (12, 0)))), some (.inl t.1), none], [], t.2) (.inl (some (.inl r.1)), r.2, 0, 0)) hres (fun t hres => ?_) (fun s ol7 hres hcl7 hxl7 => ?_)
        · obtain ⟨v13, m14⟩ := t
          show mm_E (d + 1) 243 (71, [some (.inr (.inr (some (12, 0)))), some (.inl v13), none], [], m14) (.inl (some (.inl r.1)), r.2, 0, 0)
          refine e_steps 2 (s' := (74, [some (.inr (.inr (some (12, 0)))), some (.inl v13), none], [.inl 8, .inl v13], m14)) rfl ?_
          refine e_if (s1 := (79, [some (.inr (.inr (some (12, 0)))), some (.inl v13), none], [], m14)) (s2 := (77, [some (.inr (.inr (some (12, 0)))), some (.inl v13), none], [], m14)) rfl hres (fun hc hres => ?_) (fun hc hres => ?_)
          · refine e_steps 4 (s' := (87, [some (.inr (.inr (some (12, 0)))), some (.inl v13), none], [], (mm_w m14 12 0 94 (m14 12 0 78)))) rfl ?_
            refine e_let (fun (m15 : mm_M) => (87, [some (.inr (.inr (some (12, 0)))), some (.inl v13), none], [], m15)) hres (fun m15 hres => ?_)
            refine e_steps 2 (s' := (89, [some (.inr (.inr (some (12, 0)))), some (.inl v13), some (.inl 0)], [], m15)) rfl ?_
            refine e_mask (L' := [some (.inr (.inr (some (12, 0)))), some (.inl v13), some (.inl 0)]) rfl ?_
            refine e_loopb (φ := fun s => (89, [some (.inr (.inr (some (12, 0)))), some (.inl v13), some (.inl s.1)], [], s.2)) (K := fun t => mm_E (d + 1) 243 (115, [none, some (.inl v13), none], [], t) (.inl (some (.inl r.1)), r.2, 0, 0)) hres (fun m21 hres => ?_) (fun s ol16 hres hcl16 hxl16 => ?_)
            · show mm_E (d + 1) 243 (115, [none, some (.inl v13), none], [], m21) (.inl (some (.inl r.1)), r.2, 0, 0)
              refine e_steps 1 (s' := (116, [none, some (.inl v13), none], [.inl v13], m21)) rfl ?_
              obtain rfl := Option.some.inj hres
              exact e_ret rfl rfl
            · obtain ⟨v17, m18⟩ := s
              show mm_E (d + 1) 243 (89, [some (.inr (.inr (some (12, 0)))), some (.inl v13), some (.inl v17)], [], m18) (.inl (some (.inl r.1)), r.2, 0, 0)
              refine e_steps 3 (s' := (94, [some (.inr (.inr (some (12, 0)))), some (.inl v13), some (.inl v17)], [.inl (m18 12 0 78), .inl v17], m18)) rfl ?_
              refine e_if (s1 := (115, [some (.inr (.inr (some (12, 0)))), some (.inl v13), some (.inl v17)], [], m18)) (s2 := (97, [some (.inr (.inr (some (12, 0)))), some (.inl v13), some (.inl v17)], [], m18)) rfl hres (fun hc hres => ?_) (fun hc hres => ?_)
              · obtain rfl := Option.some.inj hres
                exact e_mask (L' := [none, some (.inl v13), none]) rfl (hxl16 _ rfl)
              · refine e_steps 6 (s' := (107, [some (.inr (.inr (some (12, 0)))), some (.inl v13), some (.inl v17)], [.inl v17, .inr (.inr (some (127, 0))), .inl v17, .inr (.inr (some (128, 0)))], m18)) rfl ?_
                refine e_gd (s1 := (108, [some (.inr (.inr (some (12, 0)))), some (.inl v13), some (.inl v17)], [.inl (m18 127 0 v17.toNatClampNeg), .inl v17, .inr (.inr (some (128, 0)))], m18)) rfl hres (fun hc hres => ?_)
                refine e_gd (s1 := (109, [some (.inr (.inr (some (12, 0)))), some (.inl v13), some (.inl v17)], [], (mm_w m18 128 0 v17.toNatClampNeg (m18 127 0 v17.toNatClampNeg)))) rfl hres (fun hc hres => ?_)
                refine e_let (fun (m19 : mm_M) => (109, [some (.inr (.inr (some (12, 0)))), some (.inl v13), some (.inl v17)], [], m19)) hres (fun m19 hres => ?_)
                refine e_steps 1 (s' := (112, [some (.inr (.inr (some (12, 0)))), some (.inl v13), some (.inl (v17 + 1))], [], m19)) rfl ?_
                refine e_let (fun (v20 : Int32) => (112, [some (.inr (.inr (some (12, 0)))), some (.inl v13), some (.inl v20)], [], m19)) hres (fun v20 hres => ?_)
                refine e_steps 1 (s' := (89, [some (.inr (.inr (some (12, 0)))), some (.inl v13), some (.inl v20)], [], m19)) rfl ?_
                obtain rfl := Option.some.inj hres
                exact e_mask (L' := [some (.inr (.inr (some (12, 0)))), some (.inl v13), some (.inl v20)]) rfl (hcl16 _ rfl)
          · refine e_steps 1 (s' := (78, [some (.inr (.inr (some (12, 0)))), some (.inl v13), none], [.inl (-1)], m14)) rfl ?_
            obtain rfl := Option.some.inj hres
            exact e_ret rfl rfl
        · obtain ⟨v8, m9⟩ := s
          show mm_E (d + 1) 243 (50, [some (.inr (.inr (some (12, 0)))), some (.inl v8), none], [], m9) (.inl (some (.inl r.1)), r.2, 0, 0)
          refine e_steps 2 (s' := (53, [some (.inr (.inr (some (12, 0)))), some (.inl v8), none], [.inl 8, .inl v8], m9)) rfl ?_
          refine e_if (s1 := (71, [some (.inr (.inr (some (12, 0)))), some (.inl v8), none], [], m9)) (s2 := (56, [some (.inr (.inr (some (12, 0)))), some (.inl v8), none], [], m9)) rfl hres (fun hc hres => ?_) (fun hc hres => ?_)
          · obtain rfl := Option.some.inj hres
            exact e_mask (L' := [some (.inr (.inr (some (12, 0)))), some (.inl v8), none]) rfl (hxl7 _ rfl)
          · refine e_steps 3 (s' := (59, [some (.inr (.inr (some (12, 0)))), some (.inl v8), none], [.inl v8, .inl 0, .inr (.inr (some (12, 0)))], m9)) rfl ?_
            obtain ⟨r10, m11, hv, hres⟩ := mm_b2_some hres
            refine e_call0 (pc := 62) (L := [some (.inr (.inr (some (12, 0)))), some (.inl v8), none]) (st := []) (m' := m11) (v := some (.inl r10)) rfl (k_X12_deals 16 d (by omega) 0 v8 _ _ hv) ?_
            show mm_E (d + 1) 243 (62, [some (.inr (.inr (some (12, 0)))), some (.inl v8), none], [.inl r10], m11) (.inl (some (.inl r.1)), r.2, 0, 0)
            refine e_if (s1 := (71, [some (.inr (.inr (some (12, 0)))), some (.inl v8), none], [], m11)) (s2 := (65, [some (.inr (.inr (some (12, 0)))), some (.inl v8), none], [], m11)) rfl hres (fun hc hres => ?_) (fun hc hres => ?_)
            · obtain rfl := Option.some.inj hres
              exact e_mask (L' := [some (.inr (.inr (some (12, 0)))), some (.inl v8), none]) rfl (hxl7 _ rfl)
            · refine e_steps 1 (s' := (68, [some (.inr (.inr (some (12, 0)))), some (.inl (v8 + 1)), none], [], m11)) rfl ?_
              refine e_let (fun (v12 : Int32) => (68, [some (.inr (.inr (some (12, 0)))), some (.inl v12), none], [], m11)) hres (fun v12 hres => ?_)
              refine e_steps 1 (s' := (50, [some (.inr (.inr (some (12, 0)))), some (.inl v12), none], [], m11)) rfl ?_
              obtain rfl := Option.some.inj hres
              exact e_mask (L' := [some (.inr (.inr (some (12, 0)))), some (.inl v12), none]) rfl (hcl7 _ rfl)
      · refine e_steps 3 (s' := (50, [some (.inr (.inr (some (12, 0)))), some (.inl 0), none], [], m3)) rfl ?_
        refine e_mask (L' := [some (.inr (.inr (some (12, 0)))), some (.inl 0), none]) rfl ?_
        refine e_loopb (φ := fun s => (50, [some (.inr (.inr (some (12, 0)))), some (.inl s.1), none], [], s.2)) (K := fun t => mm_E (d + 1) 243 (71, [some (.inr (.inr (some (12, 0)))), some (.inl t.1), none], [], t.2) (.inl (some (.inl r.1)), r.2, 0, 0)) hres (fun t hres => ?_) (fun s ol22 hres hcl22 hxl22 => ?_)
        · obtain ⟨v28, m29⟩ := t
          show mm_E (d + 1) 243 (71, [some (.inr (.inr (some (12, 0)))), some (.inl v28), none], [], m29) (.inl (some (.inl r.1)), r.2, 0, 0)
          refine e_steps 2 (s' := (74, [some (.inr (.inr (some (12, 0)))), some (.inl v28), none], [.inl 8, .inl v28], m29)) rfl ?_
          refine e_if (s1 := (79, [some (.inr (.inr (some (12, 0)))), some (.inl v28), none], [], m29)) (s2 := (77, [some (.inr (.inr (some (12, 0)))), some (.inl v28), none], [], m29)) rfl hres (fun hc hres => ?_) (fun hc hres => ?_)
          · refine e_steps 4 (s' := (87, [some (.inr (.inr (some (12, 0)))), some (.inl v28), none], [], (mm_w m29 12 0 94 (m29 12 0 78)))) rfl ?_
            refine e_let (fun (m30 : mm_M) => (87, [some (.inr (.inr (some (12, 0)))), some (.inl v28), none], [], m30)) hres (fun m30 hres => ?_)
            refine e_steps 2 (s' := (89, [some (.inr (.inr (some (12, 0)))), some (.inl v28), some (.inl 0)], [], m30)) rfl ?_
            refine e_mask (L' := [some (.inr (.inr (some (12, 0)))), some (.inl v28), some (.inl 0)]) rfl ?_
            refine e_loopb (φ := fun s => (89, [some (.inr (.inr (some (12, 0)))), some (.inl v28), some (.inl s.1)], [], s.2)) (K := fun t => mm_E (d + 1) 243 (115, [none, some (.inl v28), none], [], t) (.inl (some (.inl r.1)), r.2, 0, 0)) hres (fun m36 hres => ?_) (fun s ol31 hres hcl31 hxl31 => ?_)
            · show mm_E (d + 1) 243 (115, [none, some (.inl v28), none], [], m36) (.inl (some (.inl r.1)), r.2, 0, 0)
              refine e_steps 1 (s' := (116, [none, some (.inl v28), none], [.inl v28], m36)) rfl ?_
              obtain rfl := Option.some.inj hres
              exact e_ret rfl rfl
            · obtain ⟨v32, m33⟩ := s
              show mm_E (d + 1) 243 (89, [some (.inr (.inr (some (12, 0)))), some (.inl v28), some (.inl v32)], [], m33) (.inl (some (.inl r.1)), r.2, 0, 0)
              refine e_steps 3 (s' := (94, [some (.inr (.inr (some (12, 0)))), some (.inl v28), some (.inl v32)], [.inl (m33 12 0 78), .inl v32], m33)) rfl ?_
              refine e_if (s1 := (115, [some (.inr (.inr (some (12, 0)))), some (.inl v28), some (.inl v32)], [], m33)) (s2 := (97, [some (.inr (.inr (some (12, 0)))), some (.inl v28), some (.inl v32)], [], m33)) rfl hres (fun hc hres => ?_) (fun hc hres => ?_)
              · obtain rfl := Option.some.inj hres
                exact e_mask (L' := [none, some (.inl v28), none]) rfl (hxl31 _ rfl)
              · refine e_steps 6 (s' := (107, [some (.inr (.inr (some (12, 0)))), some (.inl v28), some (.inl v32)], [.inl v32, .inr (.inr (some (127, 0))), .inl v32, .inr (.inr (some (128, 0)))], m33)) rfl ?_
                refine e_gd (s1 := (108, [some (.inr (.inr (some (12, 0)))), some (.inl v28), some (.inl v32)], [.inl (m33 127 0 v32.toNatClampNeg), .inl v32, .inr (.inr (some (128, 0)))], m33)) rfl hres (fun hc hres => ?_)
                refine e_gd (s1 := (109, [some (.inr (.inr (some (12, 0)))), some (.inl v28), some (.inl v32)], [], (mm_w m33 128 0 v32.toNatClampNeg (m33 127 0 v32.toNatClampNeg)))) rfl hres (fun hc hres => ?_)
                refine e_let (fun (m34 : mm_M) => (109, [some (.inr (.inr (some (12, 0)))), some (.inl v28), some (.inl v32)], [], m34)) hres (fun m34 hres => ?_)
                refine e_steps 1 (s' := (112, [some (.inr (.inr (some (12, 0)))), some (.inl v28), some (.inl (v32 + 1))], [], m34)) rfl ?_
                refine e_let (fun (v35 : Int32) => (112, [some (.inr (.inr (some (12, 0)))), some (.inl v28), some (.inl v35)], [], m34)) hres (fun v35 hres => ?_)
                refine e_steps 1 (s' := (89, [some (.inr (.inr (some (12, 0)))), some (.inl v28), some (.inl v35)], [], m34)) rfl ?_
                obtain rfl := Option.some.inj hres
                exact e_mask (L' := [some (.inr (.inr (some (12, 0)))), some (.inl v28), some (.inl v35)]) rfl (hcl31 _ rfl)
          · refine e_steps 1 (s' := (78, [some (.inr (.inr (some (12, 0)))), some (.inl v28), none], [.inl (-1)], m29)) rfl ?_
            obtain rfl := Option.some.inj hres
            exact e_ret rfl rfl
        · obtain ⟨v23, m24⟩ := s
          show mm_E (d + 1) 243 (50, [some (.inr (.inr (some (12, 0)))), some (.inl v23), none], [], m24) (.inl (some (.inl r.1)), r.2, 0, 0)
          refine e_steps 2 (s' := (53, [some (.inr (.inr (some (12, 0)))), some (.inl v23), none], [.inl 8, .inl v23], m24)) rfl ?_
          refine e_if (s1 := (71, [some (.inr (.inr (some (12, 0)))), some (.inl v23), none], [], m24)) (s2 := (56, [some (.inr (.inr (some (12, 0)))), some (.inl v23), none], [], m24)) rfl hres (fun hc hres => ?_) (fun hc hres => ?_)
          · obtain rfl := Option.some.inj hres
            exact e_mask (L' := [some (.inr (.inr (some (12, 0)))), some (.inl v23), none]) rfl (hxl22 _ rfl)
          · refine e_steps 3 (s' := (59, [some (.inr (.inr (some (12, 0)))), some (.inl v23), none], [.inl v23, .inl 0, .inr (.inr (some (12, 0)))], m24)) rfl ?_
            obtain ⟨r25, m26, hv, hres⟩ := mm_b2_some hres
            refine e_call0 (pc := 62) (L := [some (.inr (.inr (some (12, 0)))), some (.inl v23), none]) (st := []) (m' := m26) (v := some (.inl r25)) rfl (k_X12_deals 16 d (by omega) 0 v23 _ _ hv) ?_
            show mm_E (d + 1) 243 (62, [some (.inr (.inr (some (12, 0)))), some (.inl v23), none], [.inl r25], m26) (.inl (some (.inl r.1)), r.2, 0, 0)
            refine e_if (s1 := (71, [some (.inr (.inr (some (12, 0)))), some (.inl v23), none], [], m26)) (s2 := (65, [some (.inr (.inr (some (12, 0)))), some (.inl v23), none], [], m26)) rfl hres (fun hc hres => ?_) (fun hc hres => ?_)
            · obtain rfl := Option.some.inj hres
              exact e_mask (L' := [some (.inr (.inr (some (12, 0)))), some (.inl v23), none]) rfl (hxl22 _ rfl)
            · refine e_steps 1 (s' := (68, [some (.inr (.inr (some (12, 0)))), some (.inl (v23 + 1)), none], [], m26)) rfl ?_
              refine e_let (fun (v27 : Int32) => (68, [some (.inr (.inr (some (12, 0)))), some (.inl v27), none], [], m26)) hres (fun v27 hres => ?_)
              refine e_steps 1 (s' := (50, [some (.inr (.inr (some (12, 0)))), some (.inl v27), none], [], m26)) rfl ?_
              obtain rfl := Option.some.inj hres
              exact e_mask (L' := [some (.inr (.inr (some (12, 0)))), some (.inl v27), none]) rfl (hcl22 _ rfl)
  · show mm_E (d + 1) 243 (11, [some (.inr (.inr (some (12, 0)))), some (.inl v5), none], [], m3) (.inl (some (.inl r.1)), r.2, 0, 0)
    refine e_steps 3 (s' := (16, [some (.inr (.inr (some (12, 0)))), some (.inl v5), none], [.inl (m3 12 0 78), .inl v5], m3)) rfl ?_
    refine e_if (s1 := (37, [some (.inr (.inr (some (12, 0)))), some (.inl v5), none], [], m3)) (s2 := (19, [some (.inr (.inr (some (12, 0)))), some (.inl v5), none], [], m3)) rfl hres (fun hc hres => ?_) (fun hc hres => ?_)
    · obtain rfl := Option.some.inj hres
      exact e_mask (L' := [some (.inr (.inr (some (12, 0)))), none, none]) rfl (hxl4 _ rfl)
    · refine e_steps 3 (s' := (24, [some (.inr (.inr (some (12, 0)))), some (.inl v5), none], [.inl v5, .inr (.inr (some (125, 0)))], m3)) rfl ?_
      refine e_gd (s1 := (25, [some (.inr (.inr (some (12, 0)))), some (.inl v5), none], [.inl (m3 125 0 v5.toNatClampNeg)], m3)) rfl hres (fun hc hres => ?_)
      refine e_steps 1 (s' := (26, [some (.inr (.inr (some (12, 0)))), some (.inl v5), none], [.inl (-1), .inl (m3 125 0 v5.toNatClampNeg)], m3)) rfl ?_
      refine e_if (s1 := (31, [some (.inr (.inr (some (12, 0)))), some (.inl v5), none], [], m3)) (s2 := (29, [some (.inr (.inr (some (12, 0)))), some (.inl v5), none], [], m3)) rfl hres (fun hc hres => ?_) (fun hc hres => ?_)
      · refine e_steps 1 (s' := (34, [some (.inr (.inr (some (12, 0)))), some (.inl (v5 + 1)), none], [], m3)) rfl ?_
        refine e_let (fun (v6 : Int32) => (34, [some (.inr (.inr (some (12, 0)))), some (.inl v6), none], [], m3)) hres (fun v6 hres => ?_)
        refine e_steps 1 (s' := (11, [some (.inr (.inr (some (12, 0)))), some (.inl v6), none], [], m3)) rfl ?_
        obtain rfl := Option.some.inj hres
        exact e_mask (L' := [some (.inr (.inr (some (12, 0)))), some (.inl v6), none]) rfl (hcl4 _ rfl)
      · obtain rfl := Option.some.inj hres
        exact e_mask (L' := [none, none, none]) rfl (hxl4 _ rfl)
