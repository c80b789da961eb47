/-! rows of numbers -/
def mm_kinds : Bool := mm_cl.all (fun q => (match mm_ar q.1 with
  | some (ty, n, z) => (mm_ob q.1).isNone && Nat.ble ty 3 && decide (Int32.ofNat n = z)
  | none => true) && (match mm_ra q.1 with
  | some (n, h, b) => (mm_ob q.1).isNone && (mm_ar q.1).isNone && Nat.ble 4 (mm_rk q.1) && Nat.ble (mm_rk q.1) 7 && (List.range n).all (fun j => mm_has h (b + j) || (Nat.beq h mm_gS && Nat.blt (b + j) mm_ns))
  | none => true))
theorem mm_kinds_ok : mm_kinds = true := by decide +kernel
theorem mm_ar_ob {g i ty n : Nat} {z : Int32} (hg : (g, i) ∈ mm_cl) (ha : mm_ar g = some (ty, n, z)) : mm_ob g = none ∧ ty ≤ 3 ∧ Int32.ofNat n = z := by
  have h1 := List.all_eq_true.mp mm_kinds_ok (g, i) hg
  simp only [Bool.and_eq_true] at h1
  have h2 := h1.1
  rw [ha] at h2
  dsimp only at h2
  simp only [Bool.and_eq_true, Option.isNone_iff_eq_none, decide_eq_true_eq] at h2
  exact ⟨h2.1.1, Nat.le_of_ble_eq_true h2.1.2, h2.2⟩
theorem mm_ra_ob {g i n h b : Nat} (hg : (g, i) ∈ mm_cl) (ha : mm_ra g = some (n, h, b)) : (mm_ob g = none ∧ mm_ar g = none) ∧ (4 ≤ mm_rk g ∧ mm_rk g ≤ 7) ∧ ∀ j, j < n → (h, b + j) ∈ mm_cl ∨ (h = mm_gS ∧ b + j < mm_ns) := by
  have h1 := List.all_eq_true.mp mm_kinds_ok (g, i) hg
  simp only [Bool.and_eq_true] at h1
  have h2 := h1.2
  rw [ha] at h2
  dsimp only at h2
  simp only [Bool.and_eq_true, Option.isNone_iff_eq_none] at h2
  obtain ⟨⟨⟨⟨a1, a2⟩, a3⟩, a4⟩, a5⟩ := h2
  refine ⟨⟨a1, a2⟩, ⟨Nat.le_of_ble_eq_true a3, Nat.le_of_ble_eq_true a4⟩, fun j hj => ?_⟩
  have h6 := List.all_eq_true.mp a5 j (List.mem_range.mpr hj)
  simp only [Bool.or_eq_true, Bool.and_eq_true] at h6
  rcases h6 with h6 | ⟨h6, h7⟩
  · exact Or.inl (mm_has_mem h6)
  · exact Or.inr ⟨Nat.eq_of_beq_eq_true h6, Nat.le_of_ble_eq_true h7⟩
theorem mm_others : mm_cl.all (fun q => !(Nat.beq q.1 mm_gX) && !(Nat.beq q.1 mm_gS)) = true := by decide +kernel
theorem mm_notX {g i : Nat} (h : (g, i) ∈ mm_cl) : ¬ g = mm_gX := by
  intro z
  have h1 := List.all_eq_true.mp mm_others (g, i) h
  simp [z] at h1
theorem mm_vld_ar {g i : Nat} {x : Nat × Nat × Int32} (h : mm_vld g i) (ha : mm_ar g = some x) : (g, i) ∈ mm_cl := by
  rcases h with h | ⟨h, -⟩ | ⟨h, -⟩
  · exact h
  · subst h; cases ha
  · subst h; cases ha
theorem mm_vld_ra {g i : Nat} {x : Nat × Nat × Nat} (h : mm_vld g i) (ha : mm_ra g = some x) : (g, i) ∈ mm_cl := by
  rcases h with h | ⟨h, -⟩ | ⟨h, -⟩
  · exact h
  · subst h; cases ha
  · subst h; cases ha
theorem mm_ar999 {g : Nat} {x : Nat × Nat × Int32} (h : mm_ar g = some x) : ¬ g = 999 := fun z => by subst z; cases h
theorem mm_ra999 {g : Nat} {x : Nat × Nat × Nat} (h : mm_ra g = some x) : ¬ g = 999 := fun z => by subst z; cases h
theorem mm_inp {j : Int32} {n : Nat} (h : mm_in j n) : vp_in j n := by
  rintro (h1 | h1)
  · exact absurd h1 (Int32.not_lt.mpr h.1)
  · have := h.2; omega
theorem mm_ent_i {ad : Nat → Nat → Nat} {cy : Nat → ClassId} {m : mm_M} {g i ty n : Nat} {z : Int32} (hob : mm_ob g = none) (ha : mm_ar g = some (ty, n, z)) (h3 : ¬ ty = 3) : mm_ent ad cy m g i = .inl (cy ty, n, .inl (m g i)) := by
  unfold mm_ent
  rw [hob]
  dsimp only
  rw [ha]
  split
  · rename_i e
    cases e
    exact absurd rfl h3
  · rename_i e
    cases e
    rfl
  · rename_i e
    cases e
theorem mm_ent_l {ad : Nat → Nat → Nat} {cy : Nat → ClassId} {m : mm_M} {g i n : Nat} {z : Int32} (hob : mm_ob g = none) (ha : mm_ar g = some (3, n, z)) : mm_ent ad cy m g i = .inl (cy 3, n, .inr (.inl (fun j => (m g i j).toInt64))) := by
  unfold mm_ent
  rw [hob]
  dsimp only
  rw [ha]
  rfl
theorem mm_ent_r {ad : Nat → Nat → Nat} {cy : Nat → ClassId} {m : mm_M} {g i n h b : Nat} (hob : mm_ob g = none) (har : mm_ar g = none) (ha : mm_ra g = some (n, h, b)) : mm_ent ad cy m g i = .inl (cy (mm_rk g), n, .inr (.inr (.inr (.inr (fun j => some (ad h (b + j))))))) := by
  unfold mm_ent
  rw [hob]
  dsimp only
  rw [har]
  dsimp only
  rw [ha]
section MMR
variable {p : Program} {l : Launch} {e : Env} {R : Room} {s : State} {mid : MethodId} {args : Array Value} {below : List Frame} {meth : Method} {c : Code} {Q : State → Prop} {D : va_G} {ad : Nat → Nat → Nat} {cy : Nat → ClassId} {A : Nat → Prop} {xs : Nat → Int32} {xn : Nat} {mc ms : Nat} {k : Nat} {kk nn : Nat} {pc : Nat} {L : List (Option mm_V)} {st : List mm_V} {m : mm_M}
theorem s_iaload {g i n : Nat} {z j : Int32} (C : mm_Cx p s mid args meth c D ad cy A xs xn k) (hd : decode (mm_by k) pc = .ok (.iaload, 1)) (ha : mm_ar g = some (0, n, z)) (hj : mm_in j n) (hG : mm_G p l e R s mid args below meth c Q D ad cy A xs xn mc ms k kk nn (pc + 1) L (.inl (m g i j.toNatClampNeg) :: st) m) : mm_G p l e R s mid args below meth c Q D ad cy A xs xn mc ms k kk nn pc L (.inl j :: .inr (.inr (some (g, i))) :: st) m := by
  intro H locs cells slots ls stk hP hcv hsv hS hl hs hc1 hc2
  match stk, hs with
  | _ :: w :: stk, ⟨rfl, h1, hs⟩ =>
    obtain ⟨hv, rfl⟩ := mm_vr_own (mm_ar999 ha) h1
    have hmem := mm_vld_ar hv ha
    obtain ⟨q, hq⟩ := mm_pos hmem
    have hat := mm_ws_at (ad := ad) (cy := cy) (m := m) hq
    rw [mm_ent_i (mm_ar_ob hmem ha).1 ha (by decide)] at hat
    exact va_iald C.1 C.2.1 C.2.2.2.2.2.1.1 hP q 0 hat rfl (mm_inp hj) hd (hG H locs cells slots ls _ hP hcv hsv hS hl ⟨rfl, hs⟩ hc1 hc2)
theorem s_baload {g i n : Nat} {z j : Int32} (C : mm_Cx p s mid args meth c D ad cy A xs xn k) (hd : decode (mm_by k) pc = .ok (.baload, 1)) (ha : mm_ar g = some (1, n, z)) (hj : mm_in j n) (hG : mm_G p l e R s mid args below meth c Q D ad cy A xs xn mc ms k kk nn (pc + 1) L (.inl (m g i j.toNatClampNeg) :: st) m) : mm_G p l e R s mid args below meth c Q D ad cy A xs xn mc ms k kk nn pc L (.inl j :: .inr (.inr (some (g, i))) :: st) m := by
  intro H locs cells slots ls stk hP hcv hsv hS hl hs hc1 hc2
  match stk, hs with
  | _ :: w :: stk, ⟨rfl, h1, hs⟩ =>
    obtain ⟨hv, rfl⟩ := mm_vr_own (mm_ar999 ha) h1
    have hmem := mm_vld_ar hv ha
    obtain ⟨q, hq⟩ := mm_pos hmem
    have hat := mm_ws_at (ad := ad) (cy := cy) (m := m) hq
    rw [mm_ent_i (mm_ar_ob hmem ha).1 ha (by decide)] at hat
    exact va_bald C.1 C.2.1 C.2.2.2.2.2.1.1 hP q 1 hat rfl (mm_inp hj) hd (hG H locs cells slots ls _ hP hcv hsv hS hl ⟨rfl, hs⟩ hc1 hc2)
theorem s_zaload {g i n : Nat} {z j : Int32} (C : mm_Cx p s mid args meth c D ad cy A xs xn k) (hd : decode (mm_by k) pc = .ok (.baload, 1)) (ha : mm_ar g = some (2, n, z)) (hj : mm_in j n) (hG : mm_G p l e R s mid args below meth c Q D ad cy A xs xn mc ms k kk nn (pc + 1) L (.inl (m g i j.toNatClampNeg) :: st) m) : mm_G p l e R s mid args below meth c Q D ad cy A xs xn mc ms k kk nn pc L (.inl j :: .inr (.inr (some (g, i))) :: st) m := by
  intro H locs cells slots ls stk hP hcv hsv hS hl hs hc1 hc2
  match stk, hs with
  | _ :: w :: stk, ⟨rfl, h1, hs⟩ =>
    obtain ⟨hv, rfl⟩ := mm_vr_own (mm_ar999 ha) h1
    have hmem := mm_vld_ar hv ha
    obtain ⟨q, hq⟩ := mm_pos hmem
    have hat := mm_ws_at (ad := ad) (cy := cy) (m := m) hq
    rw [mm_ent_i (mm_ar_ob hmem ha).1 ha (by decide)] at hat
    exact va_zald C.1 C.2.1 C.2.2.2.2.2.1.1 hP q 2 hat rfl (mm_inp hj) hd (hG H locs cells slots ls _ hP hcv hsv hS hl ⟨rfl, hs⟩ hc1 hc2)
theorem s_laload {g i n : Nat} {z j : Int32} (C : mm_Cx p s mid args meth c D ad cy A xs xn k) (hd : decode (mm_by k) pc = .ok (.laload, 1)) (ha : mm_ar g = some (3, n, z)) (hj : mm_in j n) (hG : mm_G p l e R s mid args below meth c Q D ad cy A xs xn mc ms k kk nn (pc + 1) L (.inr (.inl (m g i j.toNatClampNeg)) :: st) m) : mm_G p l e R s mid args below meth c Q D ad cy A xs xn mc ms k kk nn pc L (.inl j :: .inr (.inr (some (g, i))) :: st) m := by
  intro H locs cells slots ls stk hP hcv hsv hS hl hs hc1 hc2
  match stk, hs with
  | _ :: w :: stk, ⟨rfl, h1, hs⟩ =>
    obtain ⟨hv, rfl⟩ := mm_vr_own (mm_ar999 ha) h1
    have hmem := mm_vld_ar hv ha
    obtain ⟨q, hq⟩ := mm_pos hmem
    have hat := mm_ws_at (ad := ad) (cy := cy) (m := m) hq
    rw [mm_ent_l (mm_ar_ob hmem ha).1 ha] at hat
    exact va_lald C.1 C.2.1 C.2.2.2.2.2.1.1 hP q 3 hat rfl (mm_inp hj) hd (hG H locs cells slots ls _ hP hcv hsv hS hl ⟨rfl, hs⟩ hc1 hc2)
theorem s_iastore {g i n : Nat} {z j a : Int32} (C : mm_Cx p s mid args meth c D ad cy A xs xn k) (hd : decode (mm_by k) pc = .ok (.iastore, 1)) (ha : mm_ar g = some (0, n, z)) (hj : mm_in j n) (hG : mm_G p l e R s mid args below meth c Q D ad cy A xs xn mc ms k kk nn (pc + 1) L st (mm_w m g i j.toNatClampNeg a)) : mm_G p l e R s mid args below meth c Q D ad cy A xs xn mc ms k kk nn pc L (.inl a :: .inl j :: .inr (.inr (some (g, i))) :: st) m := by
  intro H locs cells slots ls stk hP hcv hsv hS hl hs hc1 hc2
  match stk, hs with
  | _ :: _ :: w :: stk, ⟨rfl, rfl, h1, hs⟩ =>
    obtain ⟨hv, rfl⟩ := mm_vr_own (mm_ar999 ha) h1
    have hmem := mm_vld_ar hv ha
    have hob := (mm_ar_ob hmem ha).1
    obtain ⟨q, hq⟩ := mm_pos hmem
    have hat := mm_ws_at (ad := ad) (cy := cy) (m := m) hq
    rw [mm_ent_i hob ha (by decide)] at hat
    have hset : (mm_ws ad cy m).set q (ad g i, .inl (cy 0, n, .inl (upd (m g i) j.toNatClampNeg a))) = mm_ws ad cy (mm_w m g i j.toNatClampNeg a) := by
      refine mm_ws_set hq ?_ (fun g' i' hne => mm_ent_wa hne)
      rw [mm_ent_i hob ha (by decide)]
      unfold mm_w
      rw [mm_wa_self]
    refine va_iast C.1 C.2.1 C.2.2.2.2.2.1.1 hP (C.2.2.2.2.2.2.1 m) hS q 0 hat rfl (mm_inp hj) hd (fun H1 locs1 hP1 _ hS1 => ?_)
    rw [hset] at hP1
    exact hG H1 locs1 cells slots ls stk hP1 (mm_cv_wa hcv hob) (mm_sv_wa hsv (fun z => by subst z; cases ha)) hS1 hl hs hc1 hc2
theorem s_bastore {g i n : Nat} {z j a : Int32} (C : mm_Cx p s mid args meth c D ad cy A xs xn k) (hd : decode (mm_by k) pc = .ok (.bastore, 1)) (ha : mm_ar g = some (1, n, z)) (hj : mm_in j n) (hG : mm_G p l e R s mid args below meth c Q D ad cy A xs xn mc ms k kk nn (pc + 1) L st (mm_w m g i j.toNatClampNeg a.toInt8.toInt32)) : mm_G p l e R s mid args below meth c Q D ad cy A xs xn mc ms k kk nn pc L (.inl a :: .inl j :: .inr (.inr (some (g, i))) :: st) m := by
  intro H locs cells slots ls stk hP hcv hsv hS hl hs hc1 hc2
  match stk, hs with
  | _ :: _ :: w :: stk, ⟨rfl, rfl, h1, hs⟩ =>
    obtain ⟨hv, rfl⟩ := mm_vr_own (mm_ar999 ha) h1
    have hmem := mm_vld_ar hv ha
    have hob := (mm_ar_ob hmem ha).1
    obtain ⟨q, hq⟩ := mm_pos hmem
    have hat := mm_ws_at (ad := ad) (cy := cy) (m := m) hq
    rw [mm_ent_i hob ha (by decide)] at hat
    have hset : (mm_ws ad cy m).set q (ad g i, .inl (cy 1, n, .inl (upd (m g i) j.toNatClampNeg (vp_nar .byte a)))) = mm_ws ad cy (mm_w m g i j.toNatClampNeg a.toInt8.toInt32) := by
      refine mm_ws_set hq ?_ (fun g' i' hne => mm_ent_wa hne)
      rw [mm_ent_i hob ha (by decide)]
      unfold mm_w
      rw [mm_wa_self]
      rfl
    refine va_bast C.1 C.2.1 C.2.2.2.2.2.1.1 hP (C.2.2.2.2.2.2.1 m) hS q 1 hat rfl (mm_inp hj) hd (fun H1 locs1 hP1 _ hS1 => ?_)
    rw [hset] at hP1
    exact hG H1 locs1 cells slots ls stk hP1 (mm_cv_wa hcv hob) (mm_sv_wa hsv (fun z => by subst z; cases ha)) hS1 hl hs hc1 hc2
theorem s_zastore {g i n : Nat} {z j a : Int32} (C : mm_Cx p s mid args meth c D ad cy A xs xn k) (hd : decode (mm_by k) pc = .ok (.bastore, 1)) (ha : mm_ar g = some (2, n, z)) (hj : mm_in j n) (h01 : a = 0 ∨ a = 1) (hG : mm_G p l e R s mid args below meth c Q D ad cy A xs xn mc ms k kk nn (pc + 1) L st (mm_w m g i j.toNatClampNeg a)) : mm_G p l e R s mid args below meth c Q D ad cy A xs xn mc ms k kk nn pc L (.inl a :: .inl j :: .inr (.inr (some (g, i))) :: st) m := by
  intro H locs cells slots ls stk hP hcv hsv hS hl hs hc1 hc2
  match stk, hs with
  | _ :: _ :: w :: stk, ⟨rfl, rfl, h1, hs⟩ =>
    obtain ⟨hv, rfl⟩ := mm_vr_own (mm_ar999 ha) h1
    have hmem := mm_vld_ar hv ha
    have hob := (mm_ar_ob hmem ha).1
    obtain ⟨q, hq⟩ := mm_pos hmem
    have hat := mm_ws_at (ad := ad) (cy := cy) (m := m) hq
    rw [mm_ent_i hob ha (by decide)] at hat
    have hna : vp_nar .boolean a = a := by rcases h01 with rfl | rfl <;> rfl
    have hset : (mm_ws ad cy m).set q (ad g i, .inl (cy 2, n, .inl (upd (m g i) j.toNatClampNeg (vp_nar .boolean a)))) = mm_ws ad cy (mm_w m g i j.toNatClampNeg a) := by
      refine mm_ws_set hq ?_ (fun g' i' hne => mm_ent_wa hne)
      rw [mm_ent_i hob ha (by decide), hna]
      unfold mm_w
      rw [mm_wa_self]
    refine va_zast C.1 C.2.1 C.2.2.2.2.2.1.1 hP (C.2.2.2.2.2.2.1 m) hS q 2 hat rfl (mm_inp hj) hd (fun H1 locs1 hP1 _ hS1 => ?_)
    rw [hset] at hP1
    exact hG H1 locs1 cells slots ls stk hP1 (mm_cv_wa hcv hob) (mm_sv_wa hsv (fun z => by subst z; cases ha)) hS1 hl hs hc1 hc2
theorem s_lastore {g i n : Nat} {z j a : Int32} (C : mm_Cx p s mid args meth c D ad cy A xs xn k) (hd : decode (mm_by k) pc = .ok (.lastore, 1)) (ha : mm_ar g = some (3, n, z)) (hj : mm_in j n) (hG : mm_G p l e R s mid args below meth c Q D ad cy A xs xn mc ms k kk nn (pc + 1) L st (mm_w m g i j.toNatClampNeg a)) : mm_G p l e R s mid args below meth c Q D ad cy A xs xn mc ms k kk nn pc L (.inr (.inl a) :: .inl j :: .inr (.inr (some (g, i))) :: st) m := by
  intro H locs cells slots ls stk hP hcv hsv hS hl hs hc1 hc2
  match stk, hs with
  | _ :: _ :: w :: stk, ⟨rfl, rfl, h1, hs⟩ =>
    obtain ⟨hv, rfl⟩ := mm_vr_own (mm_ar999 ha) h1
    have hmem := mm_vld_ar hv ha
    have hob := (mm_ar_ob hmem ha).1
    obtain ⟨q, hq⟩ := mm_pos hmem
    have hat := mm_ws_at (ad := ad) (cy := cy) (m := m) hq
    rw [mm_ent_l hob ha] at hat
    have hset : (mm_ws ad cy m).set q (ad g i, .inl (cy 3, n, .inr (.inl (vp_updL (fun j => (m g i j).toInt64) j.toNatClampNeg a.toInt64)))) = mm_ws ad cy (mm_w m g i j.toNatClampNeg a) := by
      refine mm_ws_set hq ?_ (fun g' i' hne => mm_ent_wa hne)
      rw [mm_ent_l hob ha]
      congr 5
      funext x
      unfold mm_w
      rw [mm_wa_self]
      unfold vp_updL upd
      by_cases hx : x = j.toNatClampNeg
      · rw [if_pos hx, if_pos hx]
      · rw [if_neg hx, if_neg hx]
    refine va_last C.1 C.2.1 C.2.2.2.2.2.1.1 hP (C.2.2.2.2.2.2.1 m) hS q 3 hat rfl (mm_inp hj) hd (fun H1 locs1 hP1 _ hS1 => ?_)
    rw [hset] at hP1
    exact hG H1 locs1 cells slots ls stk hP1 (mm_cv_wa hcv hob) (mm_sv_wa hsv (fun z => by subst z; cases ha)) hS1 hl hs hc1 hc2
theorem s_alen {g i ty n : Nat} {z : Int32} (C : mm_Cx p s mid args meth c D ad cy A xs xn k) (hd : decode (mm_by k) pc = .ok (.arraylength, 1)) (ha : mm_ar g = some (ty, n, z)) (hG : mm_G p l e R s mid args below meth c Q D ad cy A xs xn mc ms k kk nn (pc + 1) L (.inl z :: st) m) : mm_G p l e R s mid args below meth c Q D ad cy A xs xn mc ms k kk nn pc L (.inr (.inr (some (g, i))) :: st) m := by
  intro H locs cells slots ls stk hP hcv hsv hS hl hs hc1 hc2
  match stk, hs with
  | w :: stk, ⟨h1, hs⟩ =>
    obtain ⟨hv, rfl⟩ := mm_vr_own (mm_ar999 ha) h1
    have hmem := mm_vld_ar hv ha
    obtain ⟨hob, h3, hz⟩ := mm_ar_ob hmem ha
    obtain ⟨q, hq⟩ := mm_pos hmem
    have hat := mm_ws_at (ad := ad) (cy := cy) (m := m) hq
    have hk := hG H locs cells slots ls (.int z :: stk) hP hcv hsv hS hl ⟨rfl, hs⟩ hc1 hc2
    by_cases h33 : ty = 3
    · subst h33
      rw [mm_ent_l hob ha] at hat
      exact va_alen C.1 C.2.1 C.2.2.2.2.2.1.1 hP q 3 hat rfl hz hd hk
    · rw [mm_ent_i hob ha h33] at hat
      have ht : ∃ tt, (mm_tys cy)[ty]? = some (cy ty, tt) := by
        rcases (show ty = 0 ∨ ty = 1 ∨ ty = 2 by omega) with rfl | rfl | rfl
        · exact ⟨_, rfl⟩
        · exact ⟨_, rfl⟩
        · exact ⟨_, rfl⟩
      obtain ⟨tt, ht⟩ := ht
      exact va_alen C.1 C.2.1 C.2.2.2.2.2.1.1 hP q ty hat ht hz hd hk
theorem mm_tyr (r : Nat) (h4 : 4 ≤ r) (h7 : r ≤ 7) : ∃ tt : FieldType, tt.isReference = true ∧ (mm_tys cy)[r]? = some (cy r, tt) := by
  rcases (show r = 4 ∨ r = 5 ∨ r = 6 ∨ r = 7 by omega) with rfl | rfl | rfl | rfl
  · exact ⟨_, rfl, rfl⟩
  · exact ⟨_, rfl, rfl⟩
  · exact ⟨_, rfl, rfl⟩
  · exact ⟨_, rfl, rfl⟩
theorem s_alenR {g i n h b : Nat} (C : mm_Cx p s mid args meth c D ad cy A xs xn k) (hd : decode (mm_by k) pc = .ok (.arraylength, 1)) (ha : mm_ra g = some (n, h, b)) (hG : mm_G p l e R s mid args below meth c Q D ad cy A xs xn mc ms k kk nn (pc + 1) L (.inl (Int32.ofNat n) :: st) m) : mm_G p l e R s mid args below meth c Q D ad cy A xs xn mc ms k kk nn pc L (.inr (.inr (some (g, i))) :: st) m := by
  intro H locs cells slots ls stk hP hcv hsv hS hl hs hc1 hc2
  match stk, hs with
  | w :: stk, ⟨h1, hs⟩ =>
    obtain ⟨hv, rfl⟩ := mm_vr_own (mm_ra999 ha) h1
    have hmem := mm_vld_ra hv ha
    obtain ⟨⟨hob, har⟩, ⟨h4, h7⟩, -⟩ := mm_ra_ob hmem ha
    obtain ⟨q, hq⟩ := mm_pos hmem
    have hat := mm_ws_at (ad := ad) (cy := cy) (m := m) hq
    rw [mm_ent_r hob har ha] at hat
    obtain ⟨tt, -, ht⟩ := mm_tyr (cy := cy) (mm_rk g) h4 h7
    exact va_alen C.1 C.2.1 C.2.2.2.2.2.1.1 hP q (mm_rk g) hat ht rfl hd (hG H locs cells slots ls _ hP hcv hsv hS hl ⟨rfl, hs⟩ hc1 hc2)
theorem s_aaload {g i n h b : Nat} {j : Int32} (C : mm_Cx p s mid args meth c D ad cy A xs xn k) (hd : decode (mm_by k) pc = .ok (.aaload, 1)) (ha : mm_ra g = some (n, h, b)) (hj : mm_in j n) (hG : mm_G p l e R s mid args below meth c Q D ad cy A xs xn mc ms k kk nn (pc + 1) L (.inr (.inr (some (h, b + j.toNatClampNeg))) :: st) m) : mm_G p l e R s mid args below meth c Q D ad cy A xs xn mc ms k kk nn pc L (.inl j :: .inr (.inr (some (g, i))) :: st) m := by
  intro H locs cells slots ls stk hP hcv hsv hS hl hs hc1 hc2
  match stk, hs with
  | _ :: w :: stk, ⟨rfl, h1, hs⟩ =>
    obtain ⟨hv, rfl⟩ := mm_vr_own (mm_ra999 ha) h1
    have hmem := mm_vld_ra hv ha
    obtain ⟨⟨hob, har⟩, ⟨h4, h7⟩, hel⟩ := mm_ra_ob hmem ha
    obtain ⟨q, hq⟩ := mm_pos hmem
    have hat := mm_ws_at (ad := ad) (cy := cy) (m := m) hq
    rw [mm_ent_r hob har ha] at hat
    obtain ⟨tt, htr, ht⟩ := mm_tyr (cy := cy) (mm_rk g) h4 h7
    have hcell : H[ad g i]? = some (arrV (cy (mm_rk g)) n (fun j => va_rf (some (ad h (b + j))))) := hP q _ hat
    have hval : mm_vr ad (.inr (.inr (some (h, b + j.toNatClampNeg)))) (.ref (ad h (b + j.toNatClampNeg))) := by
      unfold mm_vr
      dsimp only
      split
      · exact ⟨_, rfl⟩
      · rcases hel _ hj.2 with h8 | h8
        · exact ⟨Or.inl h8, rfl⟩
        · exact ⟨Or.inr (Or.inl h8), rfl⟩
    refine W.aald C.1 C.2.1 hcell ((C.2.2.2.2.2.1.1.2 _ _ ht).1 n _) htr (by intro z; cases z) (by rw [arrV_size]; exact mm_inp hj) (v := .ref (ad h (b + j.toNatClampNeg))) (by rw [arrV_read _ _ hj.2]; rfl) (g := F0 mid pc ls (.int j :: .ref (ad g i) :: stk)) rfl rfl hd ?_
    exact hG H locs cells slots ls (.ref (ad h (b + j.toNatClampNeg)) :: stk) hP hcv hsv hS hl ⟨hval, hs⟩ hc1 hc2
/-- the script is read -/
theorem s_sload {j : Int32} (C : mm_Cx p s mid args meth c D ad cy A xs xn k) (hxn : xn < 2147483648) (hd : decode (mm_by k) pc = .ok (.iaload, 1)) (hj : mm_in j (m mm_gX 1 0).toNatClampNeg) {i : Nat} (hG : mm_G p l e R s mid args below meth c Q D ad cy A xs xn mc ms k kk nn (pc + 1) L (.inl (m mm_gX 0 j.toNatClampNeg) :: st) m) : mm_G p l e R s mid args below meth c Q D ad cy A xs xn mc ms k kk nn pc L (.inl j :: .inr (.inr (some (mm_gX, i))) :: st) m := by
  intro H locs cells slots ls stk hP hcv hsv hS hl hs hc1 hc2
  match stk, hs with
  | _ :: w :: stk, ⟨rfl, h1, hs2⟩ =>
    obtain ⟨hv, rfl⟩ := mm_vr_own (by decide) h1
    have hi : i = 0 := by
      rcases hv with h | ⟨h, -⟩ | ⟨-, h⟩
      · exact absurd rfl (mm_notX h)
      · cases h
      · exact h
    subst hi
    have hlen : (m mm_gX 1 0).toNatClampNeg = xn := by
      rw [hsv.2]
      show (Int32.ofNat xn).toInt.toNat = xn
      rw [Int32.toInt_ofNat_of_lt (by omega)]
      rfl
    rw [hlen] at hj
    have hk := hG H locs cells slots ls (.int (m mm_gX 0 j.toNatClampNeg) :: stk) hP hcv hsv hS hl ⟨rfl, hs2⟩ hc1 hc2
    rw [hsv.1 _ hj.2] at hk
    exact va_sld C.1 C.2.1 C.2.2.2.2.2.2.2.2.2.2.1 C.2.2.2.2.2.2.2.2.2.2.2.1 C.2.2.2.2.2.2.2.2.2.2.2.2 hS (mm_inp hj) hd hk
end MMR
