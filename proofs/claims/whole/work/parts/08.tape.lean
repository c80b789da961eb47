theorem e_sw {d k : Nat} {s s1 : mm_S} {r : mm_R} {c : Prop} [Decidable c] {α : Type} {X Y : Option α} {o : α} {Z : Option mm_A} (h : mm_step k s = if c then some (.inl s1) else Z) (hr : (if c then X else Y) = some o) (h1 : c → X = some o → mm_E d k s1 r) (h2 : ¬ c → Y = some o → mm_step k s = Z → mm_E d k s r) : mm_E d k s r := by
  by_cases hc : c
  · rw [if_pos hc] at h hr
    exact e_step h (h1 hc hr)
  · rw [if_neg hc] at h hr
    exact h2 hc hr h
theorem e_gr {d k : Nat} {s : mm_S} {r : mm_R} {c : Prop} [Decidable c] {α : Type} {X : Option α} {p : α} {o : mm_O} (h : mm_step k s = if c then some (.inr (.inr o)) else none) (hr : (if c then X else none) = some p) (h1 : c → X = some p → (o, s.2.2.2, mm_o1 o, mm_o6 o) = r) : mm_E d k s r := by
  by_cases hc : c
  · rw [if_pos hc] at h hr
    exact e_ret h (h1 hc hr)
  · rw [if_neg hc] at hr
    cases hr
theorem e_gd2 {d k : Nat} {s s1 : mm_S} {r : mm_R} {c c2 : Prop} [Decidable c] [Decidable c2] {α : Type} {X : Option α} {o : α} (h : mm_step k s = if c then (if c2 then some (.inl s1) else none) else none) (hr : (if c then (if c2 then X else none) else none) = some o) (h1 : c → c2 → X = some o → mm_E d k s1 r) : mm_E d k s r := by
  by_cases hc : c
  · rw [if_pos hc] at h hr
    exact e_gd h hr (h1 hc)
  · rw [if_neg hc] at hr
    cases hr
/-- what a method that may throw has come to -/
def mm_th {α : Type} (m : mm_M) (f : α → mm_R) (r : Nat ⊕ α) : mm_R := match r with
  | .inl e => (.inr e, m, 1, 6)
  | .inr t => f t
theorem e_loopb {d k : Nat} {res : mm_R} {σ ρ β : Type} {step : σ → Option (σ ⊕ ρ)} {n : Nat} {s0 : σ} {cont : ρ → Option β} {o : β} (φ : σ → mm_S) (K : ρ → Prop) (hres : mm_b1 (mm_loop step n s0) cont = some o) (hx : ∀ r, cont r = some o → K r)
    (hs : ∀ (s : σ) (o' : σ ⊕ ρ), step s = some o' → (∀ s', o' = .inl s' → mm_E d k (φ s') res) → (∀ r, o' = .inr r → K r) → mm_E d k (φ s) res) : mm_E d k (φ s0) res := by
  obtain ⟨r, hr, hc⟩ := mm_b1_some hres
  exact e_loop φ step K hs n s0 r hr (hx r hc)
/-- GlassThreads$Tape.append(I)V -/
def f_X9_append (a1 : Int32) (m : mm_M) : Option (mm_M) :=
(mm_b1 (mm_loop (σ := Int32 × mm_M) (ρ := (mm_M)) (fun (s : Int32 × mm_M) => match s with
| (v2, m3) => (if v2 < 0 then (some (.inr m3))
else (if 400 ≤ (m3 1 0 1) then (mm_let (v2 + (-8)) fun v4 =>
some (.inl (v4, m3)))
else (if mm_in (m3 1 0 1) 400 then (
mm_let (mm_w m3 15 0 ((m3 1 0 1).toNatClampNeg) (((a1 >>> (v2 &&& 31)).toInt8.toInt32).toInt8.toInt32)) fun m5 =>
mm_let (mm_w m5 1 0 1 ((m5 1 0 1) + 1)) fun m6 =>
mm_let (v2 + (-8)) fun v7 =>
some (.inl (v7, m6))) else none)) : Option ((Int32 × mm_M) ⊕ ((mm_M))))) mm_fu (24, m)) fun m8 =>
some m8)
set_option maxHeartbeats 4000000 in
set_option maxRecDepth 100000 in
theorem k_X9_append (d : Nat) (hd : 0 ≤ d) (a1 : Int32) (m : mm_M) (r : mm_M) (hres : f_X9_append a1 m = some r) : mm_X d 56 [.inr (.inr (some (1, 0))), .inl a1] m (.inl none, r, 0, 0) := by
  unfold f_X9_append at hres
  show mm_E d 56 (0, [some (.inr (.inr (some (1, 0)))), some (.inl a1), none], [], m) (.inl none, r, 0, 0)
  refine e_steps 2 (s' := (3, [some (.inr (.inr (some (1, 0)))), some (.inl a1), some (.inl 24)], [], m)) rfl ?_
  refine e_mask (L' := [some (.inr (.inr (some (1, 0)))), some (.inl a1), some (.inl 24)]) rfl ?_
  refine e_loopb (φ := fun s => (3, [some (.inr (.inr (some (1, 0)))), some (.inl a1), some (.inl s.1)], [], s.2)) (K := fun t => mm_E d 56 (48, [none, none, none], [], t) (.inl none, r, 0, 0)) hres (fun m8 hres => ?_) (fun s ol1 hres hcl1 hxl1 => ?_)
  · show mm_E d 56 (48, [none, none, none], [], m8) (.inl none, r, 0, 0)
    obtain rfl := Option.some.inj hres
    exact e_ret rfl rfl
  · obtain ⟨v2, m3⟩ := s
    show mm_E d 56 (3, [some (.inr (.inr (some (1, 0)))), some (.inl a1), some (.inl v2)], [], m3) (.inl none, r, 0, 0)
    refine e_steps 1 (s' := (4, [some (.inr (.inr (some (1, 0)))), some (.inl a1), some (.inl v2)], [.inl v2], m3)) rfl ?_
    refine e_if (s1 := (48, [some (.inr (.inr (some (1, 0)))), some (.inl a1), some (.inl v2)], [], m3)) (s2 := (7, [some (.inr (.inr (some (1, 0)))), some (.inl a1), some (.inl v2)], [], m3)) rfl hres (fun hc hres => ?_) (fun hc hres => ?_)
    · obtain rfl := Option.some.inj hres
      exact e_mask (L' := [none, none, none]) rfl (hxl1 _ rfl)
    · refine e_steps 5 (s' := (16, [some (.inr (.inr (some (1, 0)))), some (.inl a1), some (.inl v2)], [.inl 400, .inl (m3 1 0 1)], m3)) rfl ?_
      refine e_if (s1 := (42, [some (.inr (.inr (some (1, 0)))), some (.inl a1), some (.inl v2)], [], m3)) (s2 := (19, [some (.inr (.inr (some (1, 0)))), some (.inl a1), some (.inl v2)], [], m3)) rfl hres (fun hc hres => ?_) (fun hc hres => ?_)
      · refine e_steps 1 (s' := (45, [some (.inr (.inr (some (1, 0)))), some (.inl a1), some (.inl (v2 + (-8)))], [], m3)) rfl ?_
        refine e_let (fun (v4 : Int32) => (45, [some (.inr (.inr (some (1, 0)))), some (.inl a1), some (.inl v4)], [], m3)) hres (fun v4 hres => ?_)
        refine e_steps 1 (s' := (3, [some (.inr (.inr (some (1, 0)))), some (.inl a1), some (.inl v4)], [], m3)) rfl ?_
        obtain rfl := Option.some.inj hres
        exact e_mask (L' := [some (.inr (.inr (some (1, 0)))), some (.inl a1), some (.inl v4)]) rfl (hcl1 _ rfl)
      · refine e_steps 8 (s' := (31, [some (.inr (.inr (some (1, 0)))), some (.inl a1), some (.inl v2)], [.inl ((a1 >>> (v2 &&& 31)).toInt8.toInt32), .inl (m3 1 0 1), .inr (.inr (some (15, 0)))], m3)) rfl ?_
        refine e_gd (s1 := (32, [some (.inr (.inr (some (1, 0)))), some (.inl a1), some (.inl v2)], [], (mm_w m3 15 0 ((m3 1 0 1).toNatClampNeg) (((a1 >>> (v2 &&& 31)).toInt8.toInt32).toInt8.toInt32)))) rfl hres (fun hc hres => ?_)
        refine e_let (fun (m5 : mm_M) => (32, [some (.inr (.inr (some (1, 0)))), some (.inl a1), some (.inl v2)], [], m5)) hres (fun m5 hres => ?_)
        refine e_steps 6 (s' := (42, [some (.inr (.inr (some (1, 0)))), some (.inl a1), some (.inl v2)], [], (mm_w m5 1 0 1 ((m5 1 0 1) + 1)))) rfl ?_
        refine e_let (fun (m6 : mm_M) => (42, [some (.inr (.inr (some (1, 0)))), some (.inl a1), some (.inl v2)], [], m6)) hres (fun m6 hres => ?_)
        refine e_steps 1 (s' := (45, [some (.inr (.inr (some (1, 0)))), some (.inl a1), some (.inl (v2 + (-8)))], [], m6)) rfl ?_
        refine e_let (fun (v7 : Int32) => (45, [some (.inr (.inr (some (1, 0)))), some (.inl a1), some (.inl v7)], [], m6)) hres (fun v7 hres => ?_)
        refine e_steps 1 (s' := (3, [some (.inr (.inr (some (1, 0)))), some (.inl a1), some (.inl v7)], [], m6)) rfl ?_
        obtain rfl := Option.some.inj hres
        exact e_mask (L' := [some (.inr (.inr (some (1, 0)))), some (.inl a1), some (.inl v7)]) rfl (hcl1 _ rfl)
/-- GlassThreads$Tape.isBlank(I)Z -/
def f_X9_isBlank (a0 : Int32) (m : mm_M) : Option (Int32) :=
if a0 = 32 then (some 1)
else (if a0 ≠ 10 then (some 0)
else (some 1))
set_option maxHeartbeats 4000000 in
set_option maxRecDepth 100000 in
theorem k_X9_isBlank (d : Nat) (hd : 0 ≤ d) (a0 : Int32) (m : mm_M) (r : Int32) (hres : f_X9_isBlank a0 m = some r) : mm_X d 69 [.inl a0] m (.inl (some (.inl r)), m, 0, 0) := by
  unfold f_X9_isBlank at hres
  show mm_E d 69 (0, [some (.inl a0)], [], m) (.inl (some (.inl r)), m, 0, 0)
  refine e_steps 2 (s' := (3, [some (.inl a0)], [.inl 32, .inl a0], m)) rfl ?_
  refine e_if (s1 := (12, [some (.inl a0)], [], m)) (s2 := (6, [some (.inl a0)], [], m)) rfl hres (fun hc hres => ?_) (fun hc hres => ?_)
  · refine e_mask (L' := [none]) rfl ?_
    refine e_steps 2 (s' := (17, [none], [.inl 1], m)) rfl ?_
    obtain rfl := Option.some.inj hres
    exact e_ret rfl rfl
  · refine e_steps 2 (s' := (9, [some (.inl a0)], [.inl 10, .inl a0], m)) rfl ?_
    refine e_if (s1 := (16, [some (.inl a0)], [], m)) (s2 := (12, [some (.inl a0)], [], m)) rfl hres (fun hc hres => ?_) (fun hc hres => ?_)
    · refine e_steps 1 (s' := (17, [some (.inl a0)], [.inl 0], m)) rfl ?_
      refine e_mask (L' := [none]) rfl ?_
      obtain rfl := Option.some.inj hres
      exact e_ret rfl rfl
    · refine e_mask (L' := [none]) rfl ?_
      refine e_steps 2 (s' := (17, [none], [.inl 1], m)) rfl ?_
      obtain rfl := Option.some.inj hres
      exact e_ret rfl rfl
/-- GlassThreads$Tape.isLetter(I)Z -/
def f_X9_isLetter (a0 : Int32) (m : mm_M) : Option (Int32) :=
if a0 < 97 then (some 0)
else (if 122 < a0 then (some 0)
else (some 1))
set_option maxHeartbeats 4000000 in
set_option maxRecDepth 100000 in
theorem k_X9_isLetter (d : Nat) (hd : 0 ≤ d) (a0 : Int32) (m : mm_M) (r : Int32) (hres : f_X9_isLetter a0 m = some r) : mm_X d 70 [.inl a0] m (.inl (some (.inl r)), m, 0, 0) := by
  unfold f_X9_isLetter at hres
  show mm_E d 70 (0, [some (.inl a0)], [], m) (.inl (some (.inl r)), m, 0, 0)
  refine e_steps 2 (s' := (3, [some (.inl a0)], [.inl 97, .inl a0], m)) rfl ?_
  refine e_if (s1 := (16, [some (.inl a0)], [], m)) (s2 := (6, [some (.inl a0)], [], m)) rfl hres (fun hc hres => ?_) (fun hc hres => ?_)
  · refine e_mask (L' := [none]) rfl ?_
    refine e_steps 1 (s' := (17, [none], [.inl 0], m)) rfl ?_
    obtain rfl := Option.some.inj hres
    exact e_ret rfl rfl
  · refine e_steps 2 (s' := (9, [some (.inl a0)], [.inl 122, .inl a0], m)) rfl ?_
    refine e_if (s1 := (16, [some (.inl a0)], [], m)) (s2 := (12, [some (.inl a0)], [], m)) rfl hres (fun hc hres => ?_) (fun hc hres => ?_)
    · refine e_mask (L' := [none]) rfl ?_
      refine e_steps 1 (s' := (17, [none], [.inl 0], m)) rfl ?_
      obtain rfl := Option.some.inj hres
      exact e_ret rfl rfl
    · refine e_steps 2 (s' := (17, [some (.inl a0)], [.inl 1], m)) rfl ?_
      refine e_mask (L' := [none]) rfl ?_
      obtain rfl := Option.some.inj hres
      exact e_ret rfl rfl
/-- GlassThreads$Tape.isDigit(I)Z -/
def f_X9_isDigit (a0 : Int32) (m : mm_M) : Option (Int32) :=
if a0 < 48 then (some 0)
else (if 57 < a0 then (some 0)
else (some 1))
set_option maxHeartbeats 4000000 in
set_option maxRecDepth 100000 in
theorem k_X9_isDigit (d : Nat) (hd : 0 ≤ d) (a0 : Int32) (m : mm_M) (r : Int32) (hres : f_X9_isDigit a0 m = some r) : mm_X d 71 [.inl a0] m (.inl (some (.inl r)), m, 0, 0) := by
  unfold f_X9_isDigit at hres
  show mm_E d 71 (0, [some (.inl a0)], [], m) (.inl (some (.inl r)), m, 0, 0)
  refine e_steps 2 (s' := (3, [some (.inl a0)], [.inl 48, .inl a0], m)) rfl ?_
  refine e_if (s1 := (16, [some (.inl a0)], [], m)) (s2 := (6, [some (.inl a0)], [], m)) rfl hres (fun hc hres => ?_) (fun hc hres => ?_)
  · refine e_mask (L' := [none]) rfl ?_
    refine e_steps 1 (s' := (17, [none], [.inl 0], m)) rfl ?_
    obtain rfl := Option.some.inj hres
    exact e_ret rfl rfl
  · refine e_steps 2 (s' := (9, [some (.inl a0)], [.inl 57, .inl a0], m)) rfl ?_
    refine e_if (s1 := (16, [some (.inl a0)], [], m)) (s2 := (12, [some (.inl a0)], [], m)) rfl hres (fun hc hres => ?_) (fun hc hres => ?_)
    · refine e_mask (L' := [none]) rfl ?_
      refine e_steps 1 (s' := (17, [none], [.inl 0], m)) rfl ?_
      obtain rfl := Option.some.inj hres
      exact e_ret rfl rfl
    · refine e_steps 2 (s' := (17, [some (.inl a0)], [.inl 1], m)) rfl ?_
      refine e_mask (L' := [none]) rfl ?_
      obtain rfl := Option.some.inj hres
      exact e_ret rfl rfl
/-- GlassThreads$Tape.isSign(I)Z -/
def f_X9_isSign (a0 : Int32) (m : mm_M) : Option (Int32) :=
if a0 = 59 then (some 1)
else (if a0 = 40 then (some 1)
else (if a0 = 41 then (some 1)
else (if a0 = 43 then (some 1)
else (if a0 = 45 then (some 1)
else (if a0 = 42 then (some 1)
else (if a0 = 47 then (some 1)
else (if a0 = 60 then (some 1)
else (if a0 ≠ 61 then (some 0)
else (some 1)))))))))
set_option maxHeartbeats 4000000 in
set_option maxRecDepth 100000 in
theorem k_X9_isSign (d : Nat) (hd : 0 ≤ d) (a0 : Int32) (m : mm_M) (r : Int32) (hres : f_X9_isSign a0 m = some r) : mm_X d 72 [.inl a0] m (.inl (some (.inl r)), m, 0, 0) := by
  unfold f_X9_isSign at hres
  show mm_E d 72 (0, [some (.inl a0)], [], m) (.inl (some (.inl r)), m, 0, 0)
  refine e_steps 2 (s' := (3, [some (.inl a0)], [.inl 59, .inl a0], m)) rfl ?_
  refine e_if (s1 := (54, [some (.inl a0)], [], m)) (s2 := (6, [some (.inl a0)], [], m)) rfl hres (fun hc hres => ?_) (fun hc hres => ?_)
  · refine e_mask (L' := [none]) rfl ?_
    refine e_steps 2 (s' := (59, [none], [.inl 1], m)) rfl ?_
    obtain rfl := Option.some.inj hres
    exact e_ret rfl rfl
  · refine e_steps 2 (s' := (9, [some (.inl a0)], [.inl 40, .inl a0], m)) rfl ?_
    refine e_if (s1 := (54, [some (.inl a0)], [], m)) (s2 := (12, [some (.inl a0)], [], m)) rfl hres (fun hc hres => ?_) (fun hc hres => ?_)
    · refine e_mask (L' := [none]) rfl ?_
      refine e_steps 2 (s' := (59, [none], [.inl 1], m)) rfl ?_
      obtain rfl := Option.some.inj hres
      exact e_ret rfl rfl
    · refine e_steps 2 (s' := (15, [some (.inl a0)], [.inl 41, .inl a0], m)) rfl ?_
      refine e_if (s1 := (54, [some (.inl a0)], [], m)) (s2 := (18, [some (.inl a0)], [], m)) rfl hres (fun hc hres => ?_) (fun hc hres => ?_)
      · refine e_mask (L' := [none]) rfl ?_
        refine e_steps 2 (s' := (59, [none], [.inl 1], m)) rfl ?_
        obtain rfl := Option.some.inj hres
        exact e_ret rfl rfl
      · refine e_steps 2 (s' := (21, [some (.inl a0)], [.inl 43, .inl a0], m)) rfl ?_
        refine e_if (s1 := (54, [some (.inl a0)], [], m)) (s2 := (24, [some (.inl a0)], [], m)) rfl hres (fun hc hres => ?_) (fun hc hres => ?_)
        · refine e_mask (L' := [none]) rfl ?_
          refine e_steps 2 (s' := (59, [none], [.inl 1], m)) rfl ?_
          obtain rfl := Option.some.inj hres
          exact e_ret rfl rfl
        · refine e_steps 2 (s' := (27, [some (.inl a0)], [.inl 45, .inl a0], m)) rfl ?_
          refine e_if (s1 := (54, [some (.inl a0)], [], m)) (s2 := (30, [some (.inl a0)], [], m)) rfl hres (fun hc hres => ?_) (fun hc hres => ?_)
          · refine e_mask (L' := [none]) rfl ?_
            refine e_steps 2 (s' := (59, [none], [.inl 1], m)) rfl ?_
            obtain rfl := Option.some.inj hres
            exact e_ret rfl rfl
          · refine e_steps 2 (s' := (33, [some (.inl a0)], [.inl 42, .inl a0], m)) rfl ?_
            refine e_if (s1 := (54, [some (.inl a0)], [], m)) (s2 := (36, [some (.inl a0)], [], m)) rfl hres (fun hc hres => ?_) (fun hc hres => ?_)
            · refine e_mask (L' := [none]) rfl ?_
              refine e_steps 2 (s' := (59, [none], [.inl 1], m)) rfl ?_
              obtain rfl := Option.some.inj hres
              exact e_ret rfl rfl
            · refine e_steps 2 (s' := (39, [some (.inl a0)], [.inl 47, .inl a0], m)) rfl ?_
              refine e_if (s1 := (54, [some (.inl a0)], [], m)) (s2 := (42, [some (.inl a0)], [], m)) rfl hres (fun hc hres => ?_) (fun hc hres => ?_)
              · refine e_mask (L' := [none]) rfl ?_
                refine e_steps 2 (s' := (59, [none], [.inl 1], m)) rfl ?_
                obtain rfl := Option.some.inj hres
                exact e_ret rfl rfl
              · refine e_steps 2 (s' := (45, [some (.inl a0)], [.inl 60, .inl a0], m)) rfl ?_
                refine e_if (s1 := (54, [some (.inl a0)], [], m)) (s2 := (48, [some (.inl a0)], [], m)) rfl hres (fun hc hres => ?_) (fun hc hres => ?_)
                · refine e_mask (L' := [none]) rfl ?_
                  refine e_steps 2 (s' := (59, [none], [.inl 1], m)) rfl ?_
                  obtain rfl := Option.some.inj hres
                  exact e_ret rfl rfl
                · refine e_steps 2 (s' := (51, [some (.inl a0)], [.inl 61, .inl a0], m)) rfl ?_
                  refine e_if (s1 := (58, [some (.inl a0)], [], m)) (s2 := (54, [some (.inl a0)], [], m)) rfl hres (fun hc hres => ?_) (fun hc hres => ?_)
                  · refine e_steps 1 (s' := (59, [some (.inl a0)], [.inl 0], m)) rfl ?_
                    refine e_mask (L' := [none]) rfl ?_
                    obtain rfl := Option.some.inj hres
                    exact e_ret rfl rfl
                  · refine e_mask (L' := [none]) rfl ?_
                    refine e_steps 2 (s' := (59, [none], [.inl 1], m)) rfl ?_
                    obtain rfl := Option.some.inj hres
                    exact e_ret rfl rfl
/-- GlassThreads$Tape.put(III)V -/
def f_X9_put (a1 : Int32) (a2 : Int32) (a3 : Int32) (m : mm_M) : Option (mm_M) :=
if 401 ≤ (m 1 0 5) then (some m)
else (if mm_in (m 1 0 5) 401 then (
mm_let (mm_w m 16 0 ((m 1 0 5).toNatClampNeg) a1) fun m1 =>
if mm_in (m1 1 0 5) 401 then (
mm_let (mm_w m1 17 0 ((m1 1 0 5).toNatClampNeg) a2) fun m2 =>
if mm_in (m2 1 0 5) 401 then (
mm_let (mm_w m2 18 0 ((m2 1 0 5).toNatClampNeg) a3) fun m3 =>
mm_let (mm_w m3 1 0 5 ((m3 1 0 5) + 1)) fun m4 =>
some m4) else none) else none) else none)
set_option maxHeartbeats 4000000 in
set_option maxRecDepth 100000 in
theorem k_X9_put (d : Nat) (hd : 0 ≤ d) (a1 : Int32) (a2 : Int32) (a3 : Int32) (m : mm_M) (r : mm_M) (hres : f_X9_put a1 a2 a3 m = some r) : mm_X d 59 [.inr (.inr (some (1, 0))), .inl a1, .inl a2, .inl a3] m (.inl none, r, 0, 0) := by
  unfold f_X9_put at hres
  show mm_E d 59 (0, [some (.inr (.inr (some (1, 0)))), some (.inl a1), some (.inl a2), some (.inl a3)], [], m) (.inl none, r, 0, 0)
  refine e_steps 5 (s' := (9, [some (.inr (.inr (some (1, 0)))), some (.inl a1), some (.inl a2), some (.inl a3)], [.inl 401, .inl (m 1 0 5)], m)) rfl ?_
  refine e_if (s1 := (52, [some (.inr (.inr (some (1, 0)))), some (.inl a1), some (.inl a2), some (.inl a3)], [], m)) (s2 := (12, [some (.inr (.inr (some (1, 0)))), some (.inl a1), some (.inl a2), some (.inl a3)], [], m)) rfl hres (fun hc hres => ?_) (fun hc hres => ?_)
  · refine e_mask (L' := [none, none, none, none]) rfl ?_
    obtain rfl := Option.some.inj hres
    exact e_ret rfl rfl
  · refine e_steps 5 (s' := (21, [some (.inr (.inr (some (1, 0)))), some (.inl a1), some (.inl a2), some (.inl a3)], [.inl a1, .inl (m 1 0 5), .inr (.inr (some (16, 0)))], m)) rfl ?_
    refine e_gd (s1 := (22, [some (.inr (.inr (some (1, 0)))), some (.inl a1), some (.inl a2), some (.inl a3)], [], (mm_w m 16 0 ((m 1 0 5).toNatClampNeg) a1))) rfl hres (fun hc hres => ?_)
    refine e_let (fun (m1 : mm_M) => (22, [some (.inr (.inr (some (1, 0)))), some (.inl a1), some (.inl a2), some (.inl a3)], [], m1)) hres (fun m1 hres => ?_)
    refine e_steps 5 (s' := (31, [some (.inr (.inr (some (1, 0)))), some (.inl a1), some (.inl a2), some (.inl a3)], [.inl a2, .inl (m1 1 0 5), .inr (.inr (some (17, 0)))], m1)) rfl ?_
    refine e_gd (s1 := (32, [some (.inr (.inr (some (1, 0)))), some (.inl a1), some (.inl a2), some (.inl a3)], [], (mm_w m1 17 0 ((m1 1 0 5).toNatClampNeg) a2))) rfl hres (fun hc hres => ?_)
    refine e_let (fun (m2 : mm_M) => (32, [some (.inr (.inr (some (1, 0)))), some (.inl a1), some (.inl a2), some (.inl a3)], [], m2)) hres (fun m2 hres => ?_)
    refine e_steps 5 (s' := (41, [some (.inr (.inr (some (1, 0)))), some (.inl a1), some (.inl a2), some (.inl a3)], [.inl a3, .inl (m2 1 0 5), .inr (.inr (some (18, 0)))], m2)) rfl ?_
    refine e_gd (s1 := (42, [some (.inr (.inr (some (1, 0)))), some (.inl a1), some (.inl a2), some (.inl a3)], [], (mm_w m2 18 0 ((m2 1 0 5).toNatClampNeg) a3))) rfl hres (fun hc hres => ?_)
    refine e_let (fun (m3 : mm_M) => (42, [some (.inr (.inr (some (1, 0)))), some (.inl a1), some (.inl a2), some (.inl a3)], [], m3)) hres (fun m3 hres => ?_)
    refine e_steps 6 (s' := (52, [some (.inr (.inr (some (1, 0)))), some (.inl a1), some (.inl a2), some (.inl a3)], [], (mm_w m3 1 0 5 ((m3 1 0 5) + 1)))) rfl ?_
    refine e_let (fun (m4 : mm_M) => (52, [some (.inr (.inr (some (1, 0)))), some (.inl a1), some (.inl a2), some (.inl a3)], [], m4)) hres (fun m4 hres => ?_)
    refine e_mask (L' := [none, none, none, none]) rfl ?_
    obtain rfl := Option.some.inj hres
    exact e_ret rfl rfl
/-- GlassThreads$Tape.numberAt(II)I -/
def f_X9_numberAt (a1 : Int32) (a2 : Int32) (m : mm_M) : Option (Int32) :=
if (a2 - a1) ≤ 5 then ((mm_b1 (mm_loop (σ := Int32 × Int32) (ρ := (Int32)) (fun (s : Int32 × Int32) => match s with
| (v2, v3) => (if a2 ≤ v3 then (some (.inr v2))
else (if mm_in v3 400 then (
mm_let (((v2 * 10) + (m 15 0 v3.toNatClampNeg)) - 48) fun v4 =>
mm_let (v3 + 1) fun v5 =>
some (.inl (v4, v5))) else none) : Option ((Int32 × Int32) ⊕ ((Int32))))) mm_fu (0, a1)) fun v6 =>
some v6))
else (some 100000)
set_option maxHeartbeats 4000000 in
set_option maxRecDepth 100000 in
theorem k_X9_numberAt (d : Nat) (hd : 0 ≤ d) (a1 : Int32) (a2 : Int32) (m : mm_M) (r : Int32) (hres : f_X9_numberAt a1 a2 m = some r) : mm_X d 61 [.inr (.inr (some (1, 0))), .inl a1, .inl a2] m (.inl (some (.inl r)), m, 0, 0) := by
  unfold f_X9_numberAt at hres
  show mm_E d 61 (0, [some (.inr (.inr (some (1, 0)))), some (.inl a1), some (.inl a2), none, none], [], m) (.inl (some (.inl r)), m, 0, 0)
  refine e_steps 4 (s' := (4, [some (.inr (.inr (some (1, 0)))), some (.inl a1), some (.inl a2), none, none], [.inl 5, .inl (a2 - a1)], m)) rfl ?_
  refine e_if (s1 := (10, [some (.inr (.inr (some (1, 0)))), some (.inl a1), some (.inl a2), none, none], [], m)) (s2 := (7, [some (.inr (.inr (some (1, 0)))), some (.inl a1), some (.inl a2), none, none], [], m)) rfl hres (fun hc hres => ?_) (fun hc hres => ?_)
  · refine e_steps 4 (s' := (15, [some (.inr (.inr (some (1, 0)))), some (.inl a1), some (.inl a2), some (.inl 0), some (.inl a1)], [], m)) rfl ?_
    refine e_mask (L' := [some (.inr (.inr (some (1, 0)))), none, some (.inl a2), some (.inl 0), some (.inl a1)]) rfl ?_
    refine e_loopb (φ := fun s => (15, [some (.inr (.inr (some (1, 0)))), none, some (.inl a2), some (.inl s.1), some (.inl s.2)], [], m)) (K := fun t => mm_E d 61 (43, [none, none, none, some (.inl t), none], [], m) (.inl (some (.inl r)), m, 0, 0)) hres (fun v6 hres => ?_) (fun s ol1 hres hcl1 hxl1 => ?_)
    · show mm_E d 61 (43, [none, none, none, some (.inl v6), none], [], m) (.inl (some (.inl r)), m, 0, 0)
      refine e_steps 1 (s' := (44, [none, none, none, some (.inl v6), none], [.inl v6], m)) rfl ?_
      obtain rfl := Option.some.inj hres
      exact e_ret rfl rfl
    · obtain ⟨v2, v3⟩ := s
      show mm_E d 61 (15, [some (.inr (.inr (some (1, 0)))), none, some (.inl a2), some (.inl v2), some (.inl v3)], [], m) (.inl (some (.inl r)), m, 0, 0)
      refine e_steps 2 (s' := (18, [some (.inr (.inr (some (1, 0)))), none, some (.inl a2), some (.inl v2), some (.inl v3)], [.inl a2, .inl v3], m)) rfl ?_
      refine e_if (s1 := (43, [some (.inr (.inr (some (1, 0)))), none, some (.inl a2), some (.inl v2), some (.inl v3)], [], m)) (s2 := (21, [some (.inr (.inr (some (1, 0)))), none, some (.inl a2), some (.inl v2), some (.inl v3)], [], m)) rfl hres (fun hc hres => ?_) (fun hc hres => ?_)
      · obtain rfl := Option.some.inj hres
        exact e_mask (L' := [none, none, none, some (.inl v2), none]) rfl (hxl1 _ rfl)
      · refine e_steps 6 (s' := (31, [some (.inr (.inr (some (1, 0)))), none, some (.inl a2), some (.inl v2), some (.inl v3)], [.inl v3, .inr (.inr (some (15, 0))), .inl (v2 * 10)], m)) rfl ?_
        refine e_gd (s1 := (32, [some (.inr (.inr (some (1, 0)))), none, some (.inl a2), some (.inl v2), some (.inl v3)], [.inl (m 15 0 v3.toNatClampNeg), .inl (v2 * 10)], m)) rfl hres (fun hc hres => ?_)
        refine e_steps 4 (s' := (37, [some (.inr (.inr (some (1, 0)))), none, some (.inl a2), some (.inl (((v2 * 10) + (m 15 0 v3.toNatClampNeg)) - 48)), some (.inl v3)], [], m)) rfl ?_
        refine e_let (fun (v4 : Int32) => (37, [some (.inr (.inr (some (1, 0)))), none, some (.inl a2), some (.inl v4), some (.inl v3)], [], m)) hres (fun v4 hres => ?_)
        refine e_steps 1 (s' := (40, [some (.inr (.inr (some (1, 0)))), none, some (.inl a2), some (.inl v4), some (.inl (v3 + 1))], [], m)) rfl ?_
        refine e_let (fun (v5 : Int32) => (40, [some (.inr (.inr (some (1, 0)))), none, some (.inl a2), some (.inl v4), some (.inl v5)], [], m)) hres (fun v5 hres => ?_)
        refine e_steps 1 (s' := (15, [some (.inr (.inr (some (1, 0)))), none, some (.inl a2), some (.inl v4), some (.inl v5)], [], m)) rfl ?_
        obtain rfl := Option.some.inj hres
        exact e_mask (L' := [some (.inr (.inr (some (1, 0)))), none, some (.inl a2), some (.inl v4), some (.inl v5)]) rfl (hcl1 _ rfl)
  · refine e_steps 1 (s' := (9, [some (.inr (.inr (some (1, 0)))), some (.inl a1), some (.inl a2), none, none], [.inl 100000], m)) rfl ?_
    obtain rfl := Option.some.inj hres
    exact e_ret rfl rfl
/-- GlassThreads$Tape.spells(IILjava/lang/String;)Z -/
def f_X9_spells (a1 : Int32) (a2 : Int32) (i3 : Nat) (m : mm_M) : Option (Int32) :=
if (a2 - a1) = (Int32.ofNat (mm_txt i3).length) then ((mm_b1 (mm_loop (σ := Int32) (ρ := (Unit) ⊕ (Unit)) (fun (v2 : Int32) => (if a2 ≤ v2 then (some (.inr (.inr ())))
else (if mm_in v2 400 then (
if mm_in (v2 - a1) (mm_txt i3).length then (
if (m 15 0 v2.toNatClampNeg) = (Int32.ofNat ((mm_txt i3).getD (v2 - a1).toNatClampNeg ' ').toNat) then (mm_let (v2 + 1) fun v3 =>
some (.inl v3))
else (some (.inr (.inl ())))) else none) else none) : Option ((Int32) ⊕ ((Unit) ⊕ (Unit))))) mm_fu a1) fun t => match t with
| .inl _ => some 0
| .inr _ => some 1))
else (some 0)
set_option maxHeartbeats 4000000 in
set_option maxRecDepth 100000 in
theorem k_X9_spells (d : Nat) (hd : 0 ≤ d) (a1 : Int32) (a2 : Int32) (i3 : Nat) (m : mm_M) (r : Int32) (hres : f_X9_spells a1 a2 i3 m = some r) : mm_X d 63 [.inr (.inr (some (1, 0))), .inl a1, .inl a2, .inr (.inr (some (135, i3)))] m (.inl (some (.inl r)), m, 0, 0) := by
  unfold f_X9_spells at hres
  show mm_E d 63 (0, [some (.inr (.inr (some (1, 0)))), some (.inl a1), some (.inl a2), some (.inr (.inr (some (135, i3)))), none], [], m) (.inl (some (.inl r)), m, 0, 0)
  refine e_steps 5 (s' := (7, [some (.inr (.inr (some (1, 0)))), some (.inl a1), some (.inl a2), some (.inr (.inr (some (135, i3)))), none], [.inl (Int32.ofNat (mm_txt i3).length), .inl (a2 - a1)], m)) rfl ?_
  refine e_if (s1 := (12, [some (.inr (.inr (some (1, 0)))), some (.inl a1), some (.inl a2), some (.inr (.inr (some (135, i3)))), none], [], m)) (s2 := (10, [some (.inr (.inr (some (1, 0)))), some (.inl a1), some (.inl a2), some (.inr (.inr (some (135, i3)))), none], [], m)) rfl hres (fun hc hres => ?_) (fun hc hres => ?_)
  · refine e_steps 2 (s' := (15, [some (.inr (.inr (some (1, 0)))), some (.inl a1), some (.inl a2), some (.inr (.inr (some (135, i3)))), some (.inl a1)], [], m)) rfl ?_
    refine e_mask (L' := [some (.inr (.inr (some (1, 0)))), some (.inl a1), some (.inl a2), some (.inr (.inr (some (135, i3)))), some (.inl a1)]) rfl ?_
    refine e_loopb (φ := fun s => (15, [some (.inr (.inr (some (1, 0)))), some (.inl a1), some (.inl a2), some (.inr (.inr (some (135, i3)))), some (.inl s)], [], m)) (K := fun t => match t with | .inl t => mm_E d 63 (39, [none, none, none, none, none], [], m) (.inl (some (.inl r)), m, 0, 0) | .inr t => mm_E d 63 (47, [none, none, none, none, none], [], m) (.inl (some (.inl r)), m, 0, 0)) hres (fun t hres => ?_) (fun v2 ol1 hres hcl1 hxl1 => ?_)
    · rcases t with _ | _
      · show mm_E d 63 (39, [none, none, none, none, none], [], m) (.inl (some (.inl r)), m, 0, 0)
        refine e_steps 1 (s' := (40, [none, none, none, none, none], [.inl 0], m)) rfl ?_
        obtain rfl := Option.some.inj hres
        exact e_ret rfl rfl
      · show mm_E d 63 (47, [none, none, none, none, none], [], m) (.inl (some (.inl r)), m, 0, 0)
        refine e_steps 1 (s' := (48, [none, none, none, none, none], [.inl 1], m)) rfl ?_
        obtain rfl := Option.some.inj hres
        exact e_ret rfl rfl
    · show mm_E d 63 (15, [some (.inr (.inr (some (1, 0)))), some (.inl a1), some (.inl a2), some (.inr (.inr (some (135, i3)))), some (.inl v2)], [], m) (.inl (some (.inl r)), m, 0, 0)
      refine e_steps 2 (s' := (18, [some (.inr (.inr (some (1, 0)))), some (.inl a1), some (.inl a2), some (.inr (.inr (some (135, i3)))), some (.inl v2)], [.inl a2, .inl v2], m)) rfl ?_
      refine e_if (s1 := (47, [some (.inr (.inr (some (1, 0)))), some (.inl a1), some (.inl a2), some (.inr (.inr (some (135, i3)))), some (.inl v2)], [], m)) (s2 := (21, [some (.inr (.inr (some (1, 0)))), some (.inl a1), some (.inl a2), some (.inr (.inr (some (135, i3)))), some (.inl v2)], [], m)) rfl hres (fun hc hres => ?_) (fun hc hres => ?_)
      · obtain rfl := Option.some.inj hres
        exact e_mask (L' := [none, none, none, none, none]) rfl (hxl1 _ rfl)
      · refine e_steps 3 (s' := (27, [some (.inr (.inr (some (1, 0)))), some (.inl a1), some (.inl a2), some (.inr (.inr (some (135, i3)))), some (.inl v2)], [.inl v2, .inr (.inr (some (15, 0)))], m)) rfl ?_
        refine e_gd (s1 := (28, [some (.inr (.inr (some (1, 0)))), some (.inl a1), some (.inl a2), some (.inr (.inr (some (135, i3)))), some (.inl v2)], [.inl (m 15 0 v2.toNatClampNeg)], m)) rfl hres (fun hc hres => ?_)
        refine e_steps 4 (s' := (33, [some (.inr (.inr (some (1, 0)))), some (.inl a1), some (.inl a2), some (.inr (.inr (some (135, i3)))), some (.inl v2)], [.inl (v2 - a1), .inr (.inr (some (135, i3))), .inl (m 15 0 v2.toNatClampNeg)], m)) rfl ?_
        refine e_gd (s1 := (36, [some (.inr (.inr (some (1, 0)))), some (.inl a1), some (.inl a2), some (.inr (.inr (some (135, i3)))), some (.inl v2)], [.inl (Int32.ofNat ((mm_txt i3).getD (v2 - a1).toNatClampNeg ' ').toNat), .inl (m 15 0 v2.toNatClampNeg)], m)) rfl hres (fun hc hres => ?_)
        refine e_if (s1 := (41, [some (.inr (.inr (some (1, 0)))), some (.inl a1), some (.inl a2), some (.inr (.inr (some (135, i3)))), some (.inl v2)], [], m)) (s2 := (39, [some (.inr (.inr (some (1, 0)))), some (.inl a1), some (.inl a2), some (.inr (.inr (some (135, i3)))), some (.inl v2)], [], m)) rfl hres (fun hc hres => ?_) (fun hc hres => ?_)
        · refine e_steps 1 (s' := (44, [some (.inr (.inr (some (1, 0)))), some (.inl a1), some (.inl a2), some (.inr (.inr (some (135, i3)))), some (.inl (v2 + 1))], [], m)) rfl ?_
          refine e_let (fun (v3 : Int32) => (44, [some (.inr (.inr (some (1, 0)))), some (.inl a1), some (.inl a2), some (.inr (.inr (some (135, i3)))), some (.inl v3)], [], m)) hres (fun v3 hres => ?_)
          refine e_steps 1 (s' := (15, [some (.inr (.inr (some (1, 0)))), some (.inl a1), some (.inl a2), some (.inr (.inr (some (135, i3)))), some (.inl v3)], [], m)) rfl ?_
          obtain rfl := Option.some.inj hres
          exact e_mask (L' := [some (.inr (.inr (some (1, 0)))), some (.inl a1), some (.inl a2), some (.inr (.inr (some (135, i3)))), some (.inl v3)]) rfl (hcl1 _ rfl)
        · obtain rfl := Option.some.inj hres
          exact e_mask (L' := [none, none, none, none, none]) rfl (hxl1 _ rfl)
  · refine e_steps 1 (s' := (11, [some (.inr (.inr (some (1, 0)))), some (.inl a1), some (.inl a2), some (.inr (.inr (some (135, i3)))), none], [.inl 0], m)) rfl ?_
    obtain rfl := Option.some.inj hres
    exact e_ret rfl rfl
/-- GlassThreads$Tape.wordAt(II)I -/
def f_X9_wordAt (a1 : Int32) (a2 : Int32) (m : mm_M) : Option (Int32) :=
mm_b1 (f_X9_spells a1 a2 13 m) fun r1 =>
if r1 = 0 then (mm_b1 (f_X9_spells a1 a2 14 m) fun r2 =>
if r2 = 0 then (mm_b1 (f_X9_spells a1 a2 15 m) fun r3 =>
if r3 = 0 then (mm_b1 (f_X9_spells a1 a2 16 m) fun r4 =>
if r4 = 0 then (mm_b1 (f_X9_spells a1 a2 17 m) fun r5 =>
if r5 = 0 then (mm_b1 (f_X9_spells a1 a2 18 m) fun r6 =>
if r6 = 0 then (mm_b1 (f_X9_spells a1 a2 19 m) fun r7 =>
if r7 = 0 then (mm_b1 (f_X9_spells a1 a2 20 m) fun r8 =>
if r8 = 0 then (mm_b1 (f_X9_spells a1 a2 21 m) fun r9 =>
if r9 = 0 then (mm_b1 (f_X9_spells a1 a2 22 m) fun r10 =>
if r10 = 0 then (mm_b1 (f_X9_spells a1 a2 23 m) fun r11 =>
if r11 = 0 then (mm_b1 (f_X9_spells a1 a2 24 m) fun r12 =>
if r12 = 0 then (mm_b1 (f_X9_spells a1 a2 25 m) fun r13 =>
if r13 = 0 then (some 3)
else (some 268))
else (some 267))
else (some 266))
else (some 265))
else (some 264))
else (some 263))
else (some 262))
else (some 261))
else (some 260))
else (some 259))
else (some 258))
else (some 257))
else (some 256)
set_option maxHeartbeats 4000000 in
set_option maxRecDepth 100000 in
theorem k_X9_wordAt (d : Nat) (hd : 1 ≤ d) (a1 : Int32) (a2 : Int32) (m : mm_M) (r : Int32) (hres : f_X9_wordAt a1 a2 m = some r) : mm_X d 62 [.inr (.inr (some (1, 0))), .inl a1, .inl a2] m (.inl (some (.inl r)), m, 0, 0) := by
  unfold f_X9_wordAt at hres
  obtain ⟨d, rfl⟩ : ∃ e, d = e + 1 := ⟨d - 1, by omega⟩
  show mm_E (d + 1) 62 (0, [some (.inr (.inr (some (1, 0)))), some (.inl a1), some (.inl a2)], [], m) (.inl (some (.inl r)), m, 0, 0)
  refine e_steps 4 (s' := (5, [some (.inr (.inr (some (1, 0)))), some (.inl a1), some (.inl a2)], [.inr (.inr (some (135, 13))), .inl a2, .inl a1, .inr (.inr (some (1, 0)))], m)) rfl ?_
  obtain ⟨r1, hv, hres⟩ := mm_b1_some hres
  refine e_call0 (pc := 8) (L := [some (.inr (.inr (some (1, 0)))), some (.inl a1), some (.inl a2)]) (st := []) (m' := m) (v := some (.inl r1)) rfl (k_X9_spells d (by omega) a1 a2 13 _ _ hv) ?_
  show mm_E (d + 1) 62 (8, [some (.inr (.inr (some (1, 0)))), some (.inl a1), some (.inl a2)], [.inl r1], m) (.inl (some (.inl r)), m, 0, 0)
  refine e_if (s1 := (15, [some (.inr (.inr (some (1, 0)))), some (.inl a1), some (.inl a2)], [], m)) (s2 := (11, [some (.inr (.inr (some (1, 0)))), some (.inl a1), some (.inl a2)], [], m)) rfl hres (fun hc hres => ?_) (fun hc hres => ?_)
  · refine e_steps 4 (s' := (20, [some (.inr (.inr (some (1, 0)))), some (.inl a1), some (.inl a2)], [.inr (.inr (some (135, 14))), .inl a2, .inl a1, .inr (.inr (some (1, 0)))], m)) rfl ?_
    obtain ⟨r2, hv, hres⟩ := mm_b1_some hres
    refine e_call0 (pc := 23) (L := [some (.inr (.inr (some (1, 0)))), some (.inl a1), some (.inl a2)]) (st := []) (m' := m) (v := some (.inl r2)) rfl (k_X9_spells d (by omega) a1 a2 14 _ _ hv) ?_
    show mm_E (d + 1) 62 (23, [some (.inr (.inr (some (1, 0)))), some (.inl a1), some (.inl a2)], [.inl r2], m) (.inl (some (.inl r)), m, 0, 0)
    refine e_if (s1 := (30, [some (.inr (.inr (some (1, 0)))), some (.inl a1), some (.inl a2)], [], m)) (s2 := (26, [some (.inr (.inr (some (1, 0)))), some (.inl a1), some (.inl a2)], [], m)) rfl hres (fun hc hres => ?_) (fun hc hres => ?_)
    · refine e_steps 4 (s' := (35, [some (.inr (.inr (some (1, 0)))), some (.inl a1), some (.inl a2)], [.inr (.inr (some (135, 15))), .inl a2, .inl a1, .inr (.inr (some (1, 0)))], m)) rfl ?_
      obtain ⟨r3, hv, hres⟩ := mm_b1_some hres
      refine e_call0 (pc := 38) (L := [some (.inr (.inr (some (1, 0)))), some (.inl a1), some (.inl a2)]) (st := []) (m' := m) (v := some (.inl r3)) rfl (k_X9_spells d (by omega) a1 a2 15 _ _ hv) ?_
      show mm_E (d + 1) 62 (38, [some (.inr (.inr (some (1, 0)))), some (.inl a1), some (.inl a2)], [.inl r3], m) (.inl (some (.inl r)), m, 0, 0)
      refine e_if (s1 := (45, [some (.inr (.inr (some (1, 0)))), some (.inl a1), some (.inl a2)], [], m)) (s2 := (41, [some (.inr (.inr (some (1, 0)))), some (.inl a1), some (.inl a2)], [], m)) rfl hres (fun hc hres => ?_) (fun hc hres => ?_)
      · refine e_steps 4 (s' := (50, [some (.inr (.inr (some (1, 0)))), some (.inl a1), some (.inl a2)], [.inr (.inr (some (135, 16))), .inl a2, .inl a1, .inr (.inr (some (1, 0)))], m)) rfl ?_
        obtain ⟨r4, hv, hres⟩ := mm_b1_some hres
        refine e_call0 (pc := 53) (L := [some (.inr (.inr (some (1, 0)))), some (.inl a1), some (.inl a2)]) (st := []) (m' := m) (v := some (.inl r4)) rfl (k_X9_spells d (by omega) a1 a2 16 _ _ hv) ?_
        show mm_E (d + 1) 62 (53, [some (.inr (.inr (some (1, 0)))), some (.inl a1), some (.inl a2)], [.inl r4], m) (.inl (some (.inl r)), m, 0, 0)
        refine e_if (s1 := (60, [some (.inr (.inr (some (1, 0)))), some (.inl a1), some (.inl a2)], [], m)) (s2 := (56, [some (.inr (.inr (some (1, 0)))), some (.inl a1), some (.inl a2)], [], m)) rfl hres (fun hc hres => ?_) (fun hc hres => ?_)
        · refine e_steps 4 (s' := (65, [some (.inr (.inr (some (1, 0)))), some (.inl a1), some (.inl a2)], [.inr (.inr (some (135, 17))), .inl a2, .inl a1, .inr (.inr (some (1, 0)))], m)) rfl ?_
          obtain ⟨r5, hv, hres⟩ := mm_b1_some hres
          refine e_call0 (pc := 68) (L := [some (.inr (.inr (some (1, 0)))), some (.inl a1), some (.inl a2)]) (st := []) (m' := m) (v := some (.inl r5)) rfl (k_X9_spells d (by omega) a1 a2 17 _ _ hv) ?_
          show mm_E (d + 1) 62 (68, [some (.inr (.inr (some (1, 0)))), some (.inl a1), some (.inl a2)], [.inl r5], m) (.inl (some (.inl r)), m, 0, 0)
          refine e_if (s1 := (75, [some (.inr (.inr (some (1, 0)))), some (.inl a1), some (.inl a2)], [], m)) (s2 := (71, [some (.inr (.inr (some (1, 0)))), some (.inl a1), some (.inl a2)], [], m)) rfl hres (fun hc hres => ?_) (fun hc hres => ?_)
          · refine e_steps 4 (s' := (80, [some (.inr (.inr (some (1, 0)))), some (.inl a1), some (.inl a2)], [.inr (.inr (some (135, 18))), .inl a2, .inl a1, .inr (.inr (some (1, 0)))], m)) rfl ?_
            obtain ⟨r6, hv, hres⟩ := mm_b1_some hres
            refine e_call0 (pc := 83) (L := [some (.inr (.inr (some (1, 0)))), some (.inl a1), some (.inl a2)]) (st := []) (m' := m) (v := some (.inl r6)) rfl (k_X9_spells d (by omega) a1 a2 18 _ _ hv) ?_
            show mm_E (d + 1) 62 (83, [some (.inr (.inr (some (1, 0)))), some (.inl a1), some (.inl a2)], [.inl r6], m) (.inl (some (.inl r)), m, 0, 0)
            refine e_if (s1 := (90, [some (.inr (.inr (some (1, 0)))), some (.inl a1), some (.inl a2)], [], m)) (s2 := (86, [some (.inr (.inr (some (1, 0)))), some (.inl a1), some (.inl a2)], [], m)) rfl hres (fun hc hres => ?_) (fun hc hres => ?_)
            · refine e_steps 4 (s' := (95, [some (.inr (.inr (some (1, 0)))), some (.inl a1), some (.inl a2)], [.inr (.inr (some (135, 19))), .inl a2, .inl a1, .inr (.inr (some (1, 0)))], m)) rfl ?_
              obtain ⟨r7, hv, hres⟩ := mm_b1_some hres
              refine e_call0 (pc := 98) (L := [some (.inr (.inr (some (1, 0)))), some (.inl a1), some (.inl a2)]) (st := []) (m' := m) (v := some (.inl r7)) rfl (k_X9_spells d (by omega) a1 a2 19 _ _ hv) ?_
              show mm_E (d + 1) 62 (98, [some (.inr (.inr (some (1, 0)))), some (.inl a1), some (.inl a2)], [.inl r7], m) (.inl (some (.inl r)), m, 0, 0)
              refine e_if (s1 := (105, [some (.inr (.inr (some (1, 0)))), some (.inl a1), some (.inl a2)], [], m)) (s2 := (101, [some (.inr (.inr (some (1, 0)))), some (.inl a1), some (.inl a2)], [], m)) rfl hres (fun hc hres => ?_) (fun hc hres => ?_)
              · refine e_steps 4 (s' := (110, [some (.inr (.inr (some (1, 0)))), some (.inl a1), some (.inl a2)], [.inr (.inr (some (135, 20))), .inl a2, .inl a1, .inr (.inr (some (1, 0)))], m)) rfl ?_
                obtain ⟨r8, hv, hres⟩ := mm_b1_some hres
                refine e_call0 (pc := 113) (L := [some (.inr (.inr (some (1, 0)))), some (.inl a1), some (.inl a2)]) (st := []) (m' := m) (v := some (.inl r8)) rfl (k_X9_spells d (by omega) a1 a2 20 _ _ hv) ?_
                show mm_E (d + 1) 62 (113, [some (.inr (.inr (some (1, 0)))), some (.inl a1), some (.inl a2)], [.inl r8], m) (.inl (some (.inl r)), m, 0, 0)
                refine e_if (s1 := (120, [some (.inr (.inr (some (1, 0)))), some (.inl a1), some (.inl a2)], [], m)) (s2 := (116, [some (.inr (.inr (some (1, 0)))), some (.inl a1), some (.inl a2)], [], m)) rfl hres (fun hc hres => ?_) (fun hc hres => ?_)
                · refine e_steps 4 (s' := (125, [some (.inr (.inr (some (1, 0)))), some (.inl a1), some (.inl a2)], [.inr (.inr (some (135, 21))), .inl a2, .inl a1, .inr (.inr (some (1, 0)))], m)) rfl ?_
                  obtain ⟨r9, hv, hres⟩ := mm_b1_some hres
                  refine e_call0 (pc := 128) (L := [some (.inr (.inr (some (1, 0)))), some (.inl a1), some (.inl a2)]) (st := []) (m' := m) (v := some (.inl r9)) rfl (k_X9_spells d (by omega) a1 a2 21 _ _ hv) ?_
                  show mm_E (d + 1) 62 (128, [some (.inr (.inr (some (1, 0)))), some (.inl a1), some (.inl a2)], [.inl r9], m) (.inl (some (.inl r)), m, 0, 0)
                  refine e_if (s1 := (135, [some (.inr (.inr (some (1, 0)))), some (.inl a1), some (.inl a2)], [], m)) (s2 := (131, [some (.inr (.inr (some (1, 0)))), some (.inl a1), some (.inl a2)], [], m)) rfl hres (fun hc hres => ?_) (fun hc hres => ?_)
                  · refine e_steps 4 (s' := (140, [some (.inr (.inr (some (1, 0)))), some (.inl a1), some (.inl a2)], [.inr (.inr (some (135, 22))), .inl a2, .inl a1, .inr (.inr (some (1, 0)))], m)) rfl ?_
                    obtain ⟨r10, hv, hres⟩ := mm_b1_some hres
                    refine e_call0 (pc := 143) (L := [some (.inr (.inr (some (1, 0)))), some (.inl a1), some (.inl a2)]) (st := []) (m' := m) (v := some (.inl r10)) rfl (k_X9_spells d (by omega) a1 a2 22 _ _ hv) ?_
                    show mm_E (d + 1) 62 (143, [some (.inr (.inr (some (1, 0)))), some (.inl a1), some (.inl a2)], [.inl r10], m) (.inl (some (.inl r)), m, 0, 0)
                    refine e_if (s1 := (150, [some (.inr (.inr (some (1, 0)))), some (.inl a1), some (.inl a2)], [], m)) (s2 := (146, [some (.inr (.inr (some (1, 0)))), some (.inl a1), some (.inl a2)], [], m)) rfl hres (fun hc hres => ?_) (fun hc hres => ?_)
                    · refine e_steps 4 (s' := (155, [some (.inr (.inr (some (1, 0)))), some (.inl a1), some (.inl a2)], [.inr (.inr (some (135, 23))), .inl a2, .inl a1, .inr (.inr (some (1, 0)))], m)) rfl ?_
                      obtain ⟨r11, hv, hres⟩ := mm_b1_some hres
                      refine e_call0 (pc := 158) (L := [some (.inr (.inr (some (1, 0)))), some (.inl a1), some (.inl a2)]) (st := []) (m' := m) (v := some (.inl r11)) rfl (k_X9_spells d (by omega) a1 a2 23 _ _ hv) ?_
                      show mm_E (d + 1) 62 (158, [some (.inr (.inr (some (1, 0)))), some (.inl a1), some (.inl a2)], [.inl r11], m) (.inl (some (.inl r)), m, 0, 0)
                      refine e_if (s1 := (165, [some (.inr (.inr (some (1, 0)))), some (.inl a1), some (.inl a2)], [], m)) (s2 := (161, [some (.inr (.inr (some (1, 0)))), some (.inl a1), some (.inl a2)], [], m)) rfl hres (fun hc hres => ?_) (fun hc hres => ?_)
                      · refine e_steps 4 (s' := (170, [some (.inr (.inr (some (1, 0)))), some (.inl a1), some (.inl a2)], [.inr (.inr (some (135, 24))), .inl a2, .inl a1, .inr (.inr (some (1, 0)))], m)) rfl ?_
                        obtain ⟨r12, hv, hres⟩ := mm_b1_some hres
                        refine e_call0 (pc := 173) (L := [some (.inr (.inr (some (1, 0)))), some (.inl a1), some (.inl a2)]) (st := []) (m' := m) (v := some (.inl r12)) rfl (k_X9_spells d (by omega) a1 a2 24 _ _ hv) ?_
                        show mm_E (d + 1) 62 (173, [some (.inr (.inr (some (1, 0)))), some (.inl a1), some (.inl a2)], [.inl r12], m) (.inl (some (.inl r)), m, 0, 0)
                        refine e_if (s1 := (180, [some (.inr (.inr (some (1, 0)))), some (.inl a1), some (.inl a2)], [], m)) (s2 := (176, [some (.inr (.inr (some (1, 0)))), some (.inl a1), some (.inl a2)], [], m)) rfl hres (fun hc hres => ?_) (fun hc hres => ?_)
                        · refine e_steps 4 (s' := (185, [some (.inr (.inr (some (1, 0)))), some (.inl a1), some (.inl a2)], [.inr (.inr (some (135, 25))), .inl a2, .inl a1, .inr (.inr (some (1, 0)))], m)) rfl ?_
                          obtain ⟨r13, hv, hres⟩ := mm_b1_some hres
                          refine e_call0 (pc := 188) (L := [some (.inr (.inr (some (1, 0)))), some (.inl a1), some (.inl a2)]) (st := []) (m' := m) (v := some (.inl r13)) rfl (k_X9_spells d (by omega) a1 a2 25 _ _ hv) ?_
                          show mm_E (d + 1) 62 (188, [some (.inr (.inr (some (1, 0)))), some (.inl a1), some (.inl a2)], [.inl r13], m) (.inl (some (.inl r)), m, 0, 0)
                          refine e_if (s1 := (195, [some (.inr (.inr (some (1, 0)))), some (.inl a1), some (.inl a2)], [], m)) (s2 := (191, [some (.inr (.inr (some (1, 0)))), some (.inl a1), some (.inl a2)], [], m)) rfl hres (fun hc hres => ?_) (fun hc hres => ?_)
                          · refine e_steps 1 (s' := (196, [some (.inr (.inr (some (1, 0)))), some (.inl a1), some (.inl a2)], [.inl 3], m)) rfl ?_
                            obtain rfl := Option.some.inj hres
                            exact e_ret rfl rfl
                          · refine e_steps 1 (s' := (194, [some (.inr (.inr (some (1, 0)))), some (.inl a1), some (.inl a2)], [.inl 268], m)) rfl ?_
                            obtain rfl := Option.some.inj hres
                            exact e_ret rfl rfl
                        · refine e_steps 1 (s' := (179, [some (.inr (.inr (some (1, 0)))), some (.inl a1), some (.inl a2)], [.inl 267], m)) rfl ?_
                          obtain rfl := Option.some.inj hres
                          exact e_ret rfl rfl
                      · refine e_steps 1 (s' := (164, [some (.inr (.inr (some (1, 0)))), some (.inl a1), some (.inl a2)], [.inl 266], m)) rfl ?_
                        obtain rfl := Option.some.inj hres
                        exact e_ret rfl rfl
                    · refine e_steps 1 (s' := (149, [some (.inr (.inr (some (1, 0)))), some (.inl a1), some (.inl a2)], [.inl 265], m)) rfl ?_
                      obtain rfl := Option.some.inj hres
                      exact e_ret rfl rfl
                  · refine e_steps 1 (s' := (134, [some (.inr (.inr (some (1, 0)))), some (.inl a1), some (.inl a2)], [.inl 264], m)) rfl ?_
                    obtain rfl := Option.some.inj hres
                    exact e_ret rfl rfl
                · refine e_steps 1 (s' := (119, [some (.inr (.inr (some (1, 0)))), some (.inl a1), some (.inl a2)], [.inl 263], m)) rfl ?_
                  obtain rfl := Option.some.inj hres
                  exact e_ret rfl rfl
              · refine e_steps 1 (s' := (104, [some (.inr (.inr (some (1, 0)))), some (.inl a1), some (.inl a2)], [.inl 262], m)) rfl ?_
                obtain rfl := Option.some.inj hres
                exact e_ret rfl rfl
            · refine e_steps 1 (s' := (89, [some (.inr (.inr (some (1, 0)))), some (.inl a1), some (.inl a2)], [.inl 261], m)) rfl ?_
              obtain rfl := Option.some.inj hres
              exact e_ret rfl rfl
          · refine e_steps 1 (s' := (74, [some (.inr (.inr (some (1, 0)))), some (.inl a1), some (.inl a2)], [.inl 260], m)) rfl ?_
            obtain rfl := Option.some.inj hres
            exact e_ret rfl rfl
        · refine e_steps 1 (s' := (59, [some (.inr (.inr (some (1, 0)))), some (.inl a1), some (.inl a2)], [.inl 259], m)) rfl ?_
          obtain rfl := Option.some.inj hres
          exact e_ret rfl rfl
      · refine e_steps 1 (s' := (44, [some (.inr (.inr (some (1, 0)))), some (.inl a1), some (.inl a2)], [.inl 258], m)) rfl ?_
        obtain rfl := Option.some.inj hres
        exact e_ret rfl rfl
    · refine e_steps 1 (s' := (29, [some (.inr (.inr (some (1, 0)))), some (.inl a1), some (.inl a2)], [.inl 257], m)) rfl ?_
      obtain rfl := Option.some.inj hres
      exact e_ret rfl rfl
  · refine e_steps 1 (s' := (14, [some (.inr (.inr (some (1, 0)))), some (.inl a1), some (.inl a2)], [.inl 256], m)) rfl ?_
    obtain rfl := Option.some.inj hres
    exact e_ret rfl rfl
/-- GlassThreads$Tape.takeToken(II)I -/
def f_X9_takeToken (a1 : Int32) (a2 : Int32) (m : mm_M) : Option (Int32 × mm_M) :=
if mm_in a1 400 then (
mm_b1 (f_X9_isLetter (m 15 0 a1.toNatClampNeg) m) fun r1 =>
if r1 = 0 then (if mm_in a1 400 then (
mm_b1 (f_X9_isDigit (m 15 0 a1.toNatClampNeg) m) fun r2 =>
if r2 = 0 then (if mm_in a1 400 then (
mm_b1 (f_X9_isSign (m 15 0 a1.toNatClampNeg) m) fun r3 =>
mm_let (fun (w4 : Int32) => (mm_b1 (f_X9_put w4 0 a1 m) fun m7 =>
some ((a1 + 1), m7) : Option (Int32 × mm_M))) fun k5 =>
if r3 = 0 then (k5 1)
else (if mm_in a1 400 then (
k5 (m 15 0 a1.toNatClampNeg)) else none)) else none)
else (mm_let (a1 + 1) fun v8 =>
(mm_b1 (mm_loop (σ := Int32) (ρ := (Int32)) (fun (v10 : Int32) => (if a2 ≤ v10 then (some (.inr v10))
else (if mm_in v10 400 then (
mm_b1 (f_X9_isDigit (m 15 0 v10.toNatClampNeg) m) fun r11 =>
if r11 = 0 then (some (.inr v10))
else (mm_let (v10 + 1) fun v12 =>
some (.inl v12))) else none) : Option ((Int32) ⊕ ((Int32))))) mm_fu v8) fun v13 =>
mm_b1 (f_X9_numberAt a1 v13 m) fun r14 =>
mm_b1 (f_X9_put 2 r14 a1 m) fun m16 =>
some (v13, m16)))) else none)
else (mm_let (a1 + 1) fun v17 =>
(mm_b1 (mm_loop (σ := Int32) (ρ := (Int32)) (fun (v19 : Int32) => (if a2 ≤ v19 then (some (.inr v19))
else (if mm_in v19 400 then (
mm_b1 (f_X9_isLetter (m 15 0 v19.toNatClampNeg) m) fun r20 =>
if r20 = 0 then (some (.inr v19))
else (mm_let (v19 + 1) fun v21 =>
some (.inl v21))) else none) : Option ((Int32) ⊕ ((Int32))))) mm_fu v17) fun v22 =>
mm_b1 (f_X9_wordAt a1 v22 m) fun r23 =>
mm_b1 (f_X9_put r23 0 a1 m) fun m25 =>
some (v22, m25)))) else none
set_option maxHeartbeats 4000000 in
set_option maxRecDepth 100000 in
theorem k_X9_takeToken (d : Nat) (hd : 2 ≤ d) (a1 : Int32) (a2 : Int32) (m : mm_M) (r : Int32 × mm_M) (hres : f_X9_takeToken a1 a2 m = some r) : mm_X d 58 [.inr (.inr (some (1, 0))), .inl a1, .inl a2] m (.inl (some (.inl r.1)), r.2, 0, 0) := by
  unfold f_X9_takeToken at hres
  obtain ⟨d, rfl⟩ : ∃ e, d = e + 1 := ⟨d - 1, by omega⟩
  show mm_E (d + 1) 58 (0, [some (.inr (.inr (some (1, 0)))), some (.inl a1), some (.inl a2), none], [], m) (.inl (some (.inl r.1)), r.2, 0, 0)
  refine e_steps 3 (s' := (5, [some (.inr (.inr (some (1, 0)))), some (.inl a1), some (.inl a2), none], [.inl a1, .inr (.inr (some (15, 0)))], m)) rfl ?_
  refine e_gd (s1 := (6, [some (.inr (.inr (some (1, 0)))), some (.inl a1), some (.inl a2), none], [.inl (m 15 0 a1.toNatClampNeg)], m)) rfl hres (fun hc hres => ?_)
  obtain ⟨r1, hv, hres⟩ := mm_b1_some hres
  refine e_call0 (pc := 9) (L := [some (.inr (.inr (some (1, 0)))), some (.inl a1), some (.inl a2), none]) (st := []) (m' := m) (v := some (.inl r1)) rfl (k_X9_isLetter d (by omega) (m 15 0 a1.toNatClampNeg) _ _ hv) ?_
  show mm_E (d + 1) 58 (9, [some (.inr (.inr (some (1, 0)))), some (.inl a1), some (.inl a2), none], [.inl r1], m) (.inl (some (.inl r.1)), r.2, 0, 0)
  refine e_if (s1 := (53, [some (.inr (.inr (some (1, 0)))), some (.inl a1), some (.inl a2), none], [], m)) (s2 := (12, [some (.inr (.inr (some (1, 0)))), some (.inl a1), some (.inl a2), none], [], m)) rfl hres (fun hc hres => ?_) (fun hc hres => ?_)
  · refine e_steps 3 (s' := (58, [some (.inr (.inr (some (1, 0)))), some (.inl a1), some (.inl a2), none], [.inl a1, .inr (.inr (some (15, 0)))], m)) rfl ?_
    refine e_gd (s1 := (59, [some (.inr (.inr (some (1, 0)))), some (.inl a1), some (.inl a2), none], [.inl (m 15 0 a1.toNatClampNeg)], m)) rfl hres (fun hc hres => ?_)
    obtain ⟨r2, hv, hres⟩ := mm_b1_some hres
    refine e_call0 (pc := 62) (L := [some (.inr (.inr (some (1, 0)))), some (.inl a1), some (.inl a2), none]) (st := []) (m' := m) (v := some (.inl r2)) rfl (k_X9_isDigit d (by omega) (m 15 0 a1.toNatClampNeg) _ _ hv) ?_
    show mm_E (d + 1) 58 (62, [some (.inr (.inr (some (1, 0)))), some (.inl a1), some (.inl a2), none], [.inl r2], m) (.inl (some (.inl r.1)), r.2, 0, 0)
    refine e_if (s1 := (106, [some (.inr (.inr (some (1, 0)))), some (.inl a1), some (.inl a2), none], [], m)) (s2 := (65, [some (.inr (.inr (some (1, 0)))), some (.inl a1), some (.inl a2), none], [], m)) rfl hres (fun hc hres => ?_) (fun hc hres => ?_)
    · refine e_steps 4 (s' := (112, [some (.inr (.inr (some (1, 0)))), some (.inl a1), some (.inl a2), none], [.inl a1, .inr (.inr (some (15, 0))), .inr (.inr (some (1, 0)))], m)) rfl ?_
      refine e_gd (s1 := (113, [some (.inr (.inr (some (1, 0)))), some (.inl a1), some (.inl a2), none], [.inl (m 15 0 a1.toNatClampNeg), .inr (.inr (some (1, 0)))], m)) rfl hres (fun hc hres => ?_)
      obtain ⟨r3, hv, hres⟩ := mm_b1_some hres
      refine e_call0 (pc := 116) (L := [some (.inr (.inr (some (1, 0)))), some (.inl a1), some (.inl a2), none]) (st := [.inr (.inr (some (1, 0)))]) (m' := m) (v := some (.inl r3)) rfl (k_X9_isSign d (by omega) (m 15 0 a1.toNatClampNeg) _ _ hv) ?_
      show mm_E (d + 1) 58 (116, [some (.inr (.inr (some (1, 0)))), some (.inl a1), some (.inl a2), none], [.inl r3, .inr (.inr (some (1, 0)))], m) (.inl (some (.inl r.1)), r.2, 0, 0)
      refine e_join (fun k5 => ∀ (w4 : Int32), k5 w4 = some r → mm_E (d + 1) 58 (129, [none, some (.inl a1), none, none], [.inl w4, .inr (.inr (some (1, 0)))], m) (.inl (some (.inl r.1)), r.2, 0, 0)) hres (fun w4 hres => ?_) (fun k5 hk5 hres => ?_)
      · refine e_steps 2 (s' := (131, [none, some (.inl a1), none, none], [.inl a1, .inl 0, .inl w4, .inr (.inr (some (1, 0)))], m)) rfl ?_
        obtain ⟨m7, hv, hres⟩ := mm_b1_some hres
        refine e_call0 (pc := 134) (L := [none, some (.inl a1), none, none]) (st := []) (m' := m7) (v := none) rfl (k_X9_put d (by omega) w4 0 a1 _ _ hv) ?_
        show mm_E (d + 1) 58 (134, [none, some (.inl a1), none, none], [], m7) (.inl (some (.inl r.1)), r.2, 0, 0)
        refine e_steps 3 (s' := (137, [none, some (.inl a1), none, none], [.inl (a1 + 1)], m7)) rfl ?_
        obtain rfl := Option.some.inj hres
        exact e_ret rfl rfl
      · refine e_if (s1 := (128, [some (.inr (.inr (some (1, 0)))), some (.inl a1), some (.inl a2), none], [.inr (.inr (some (1, 0)))], m)) (s2 := (119, [some (.inr (.inr (some (1, 0)))), some (.inl a1), some (.inl a2), none], [.inr (.inr (some (1, 0)))], m)) rfl hres (fun hc hres => ?_) (fun hc hres => ?_)
        · refine e_steps 1 (s' := (129, [some (.inr (.inr (some (1, 0)))), some (.inl a1), some (.inl a2), none], [.inl 1, .inr (.inr (some (1, 0)))], m)) rfl ?_
          exact e_mask (L' := [none, some (.inl a1), none, none]) rfl (hk5 _ hres)
        · refine e_steps 3 (s' := (124, [some (.inr (.inr (some (1, 0)))), some (.inl a1), some (.inl a2), none], [.inl a1, .inr (.inr (some (15, 0))), .inr (.inr (some (1, 0)))], m)) rfl ?_
          refine e_gd (s1 := (125, [some (.inr (.inr (some (1, 0)))), some (.inl a1), some (.inl a2), none], [.inl (m 15 0 a1.toNatClampNeg), .inr (.inr (some (1, 0)))], m)) rfl hres (fun hc hres => ?_)
          refine e_steps 1 (s' := (129, [some (.inr (.inr (some (1, 0)))), some (.inl a1), some (.inl a2), none], [.inl (m 15 0 a1.toNatClampNeg), .inr (.inr (some (1, 0)))], m)) rfl ?_
          exact e_mask (L' := [none, some (.inl a1), none, none]) rfl (hk5 _ hres)
    · refine e_steps 4 (s' := (69, [some (.inr (.inr (some (1, 0)))), some (.inl a1), some (.inl a2), some (.inl (a1 + 1))], [], m)) rfl ?_
      refine e_let (fun (v8 : Int32) => (69, [some (.inr (.inr (some (1, 0)))), some (.inl a1), some (.inl a2), some (.inl v8)], [], m)) hres (fun v8 hres => ?_)
      refine e_mask (L' := [some (.inr (.inr (some (1, 0)))), some (.inl a1), some (.inl a2), some (.inl v8)]) rfl ?_
      refine e_loopb (φ := fun s => (69, [some (.inr (.inr (some (1, 0)))), some (.inl a1), some (.inl a2), some (.inl s)], [], m)) (K := fun t => mm_E (d + 1) 58 (92, [some (.inr (.inr (some (1, 0)))), some (.inl a1), none, some (.inl t)], [], m) (.inl (some (.inl r.1)), r.2, 0, 0)) hres (fun v13 hres => ?_) (fun v10 ol9 hres hcl9 hxl9 => ?_)
      · show mm_E (d + 1) 58 (92, [some (.inr (.inr (some (1, 0)))), some (.inl a1), none, some (.inl v13)], [], m) (.inl (some (.inl r.1)), r.2, 0, 0)
        refine e_steps 5 (s' := (97, [some (.inr (.inr (some (1, 0)))), some (.inl a1), none, some (.inl v13)], [.inl v13, .inl a1, .inr (.inr (some (1, 0))), .inl 2, .inr (.inr (some (1, 0)))], m)) rfl ?_
        obtain ⟨r14, hv, hres⟩ := mm_b1_some hres
        refine e_call0 (pc := 100) (L := [some (.inr (.inr (some (1, 0)))), some (.inl a1), none, some (.inl v13)]) (st := [.inl 2, .inr (.inr (some (1, 0)))]) (m' := m) (v := some (.inl r14)) rfl (k_X9_numberAt d (by omega) a1 v13 _ _ hv) ?_
        show mm_E (d + 1) 58 (100, [some (.inr (.inr (some (1, 0)))), some (.inl a1), none, some (.inl v13)], [.inl r14, .inl 2, .inr (.inr (some (1, 0)))], m) (.inl (some (.inl r.1)), r.2, 0, 0)
        refine e_steps 1 (s' := (101, [some (.inr (.inr (some (1, 0)))), some (.inl a1), none, some (.inl v13)], [.inl a1, .inl r14, .inl 2, .inr (.inr (some (1, 0)))], m)) rfl ?_
        obtain ⟨m16, hv, hres⟩ := mm_b1_some hres
        refine e_call0 (pc := 104) (L := [some (.inr (.inr (some (1, 0)))), some (.inl a1), none, some (.inl v13)]) (st := []) (m' := m16) (v := none) rfl (k_X9_put d (by omega) 2 r14 a1 _ _ hv) ?_
        show mm_E (d + 1) 58 (104, [some (.inr (.inr (some (1, 0)))), some (.inl a1), none, some (.inl v13)], [], m16) (.inl (some (.inl r.1)), r.2, 0, 0)
        refine e_steps 1 (s' := (105, [some (.inr (.inr (some (1, 0)))), some (.inl a1), none, some (.inl v13)], [.inl v13], m16)) rfl ?_
        obtain rfl := Option.some.inj hres
        exact e_ret rfl rfl
      · show mm_E (d + 1) 58 (69, [some (.inr (.inr (some (1, 0)))), some (.inl a1), some (.inl a2), some (.inl v10)], [], m) (.inl (some (.inl r.1)), r.2, 0, 0)
        refine e_steps 2 (s' := (71, [some (.inr (.inr (some (1, 0)))), some (.inl a1), some (.inl a2), some (.inl v10)], [.inl a2, .inl v10], m)) rfl ?_
        refine e_if (s1 := (92, [some (.inr (.inr (some (1, 0)))), some (.inl a1), some (.inl a2), some (.inl v10)], [], m)) (s2 := (74, [some (.inr (.inr (some (1, 0)))), some (.inl a1), some (.inl a2), some (.inl v10)], [], m)) rfl hres (fun hc hres => ?_) (fun hc hres => ?_)
        · obtain rfl := Option.some.inj hres
          exact e_mask (L' := [some (.inr (.inr (some (1, 0)))), some (.inl a1), none, some (.inl v10)]) rfl (hxl9 _ rfl)
        · refine e_steps 3 (s' := (79, [some (.inr (.inr (some (1, 0)))), some (.inl a1), some (.inl a2), some (.inl v10)], [.inl v10, .inr (.inr (some (15, 0)))], m)) rfl ?_
          refine e_gd (s1 := (80, [some (.inr (.inr (some (1, 0)))), some (.inl a1), some (.inl a2), some (.inl v10)], [.inl (m 15 0 v10.toNatClampNeg)], m)) rfl hres (fun hc hres => ?_)
          obtain ⟨r11, hv, hres⟩ := mm_b1_some hres
          refine e_call0 (pc := 83) (L := [some (.inr (.inr (some (1, 0)))), some (.inl a1), some (.inl a2), some (.inl v10)]) (st := []) (m' := m) (v := some (.inl r11)) rfl (k_X9_isDigit d (by omega) (m 15 0 v10.toNatClampNeg) _ _ hv) ?_
          show mm_E (d + 1) 58 (83, [some (.inr (.inr (some (1, 0)))), some (.inl a1), some (.inl a2), some (.inl v10)], [.inl r11], m) (.inl (some (.inl r.1)), r.2, 0, 0)
          refine e_if (s1 := (92, [some (.inr (.inr (some (1, 0)))), some (.inl a1), some (.inl a2), some (.inl v10)], [], m)) (s2 := (86, [some (.inr (.inr (some (1, 0)))), some (.inl a1), some (.inl a2), some (.inl v10)], [], m)) rfl hres (fun hc hres => ?_) (fun hc hres => ?_)
          · obtain rfl := Option.some.inj hres
            exact e_mask (L' := [some (.inr (.inr (some (1, 0)))), some (.inl a1), none, some (.inl v10)]) rfl (hxl9 _ rfl)
          · refine e_steps 1 (s' := (89, [some (.inr (.inr (some (1, 0)))), some (.inl a1), some (.inl a2), some (.inl (v10 + 1))], [], m)) rfl ?_
            refine e_let (fun (v12 : Int32) => (89, [some (.inr (.inr (some (1, 0)))), some (.inl a1), some (.inl a2), some (.inl v12)], [], m)) hres (fun v12 hres => ?_)
            refine e_steps 1 (s' := (69, [some (.inr (.inr (some (1, 0)))), some (.inl a1), some (.inl a2), some (.inl v12)], [], m)) rfl ?_
            obtain rfl := Option.some.inj hres
            exact e_mask (L' := [some (.inr (.inr (some (1, 0)))), some (.inl a1), some (.inl a2), some (.inl v12)]) rfl (hcl9 _ rfl)
  · refine e_steps 4 (s' := (16, [some (.inr (.inr (some (1, 0)))), some (.inl a1), some (.inl a2), some (.inl (a1 + 1))], [], m)) rfl ?_
    refine e_let (fun (v17 : Int32) => (16, [some (.inr (.inr (some (1, 0)))), some (.inl a1), some (.inl a2), some (.inl v17)], [], m)) hres (fun v17 hres => ?_)
    refine e_mask (L' := [some (.inr (.inr (some (1, 0)))), some (.inl a1), some (.inl a2), some (.inl v17)]) rfl ?_
    refine e_loopb (φ := fun s => (16, [some (.inr (.inr (some (1, 0)))), some (.inl a1), some (.inl a2), some (.inl s)], [], m)) (K := fun t => mm_E (d + 1) 58 (39, [some (.inr (.inr (some (1, 0)))), some (.inl a1), none, some (.inl t)], [], m) (.inl (some (.inl r.1)), r.2, 0, 0)) hres (fun v22 hres => ?_) (fun v19 ol18 hres hcl18 hxl18 => ?_)
    · show mm_E (d + 1) 58 (39, [some (.inr (.inr (some (1, 0)))), some (.inl a1), none, some (.inl v22)], [], m) (.inl (some (.inl r.1)), r.2, 0, 0)
      refine e_steps 4 (s' := (43, [some (.inr (.inr (some (1, 0)))), some (.inl a1), none, some (.inl v22)], [.inl v22, .inl a1, .inr (.inr (some (1, 0))), .inr (.inr (some (1, 0)))], m)) rfl ?_
      obtain ⟨r23, hv, hres⟩ := mm_b1_some hres
      refine e_call0 (pc := 46) (L := [some (.inr (.inr (some (1, 0)))), some (.inl a1), none, some (.inl v22)]) (st := [.inr (.inr (some (1, 0)))]) (m' := m) (v := some (.inl r23)) rfl (k_X9_wordAt d (by omega) a1 v22 _ _ hv) ?_
      show mm_E (d + 1) 58 (46, [some (.inr (.inr (some (1, 0)))), some (.inl a1), none, some (.inl v22)], [.inl r23, .inr (.inr (some (1, 0)))], m) (.inl (some (.inl r.1)), r.2, 0, 0)
      refine e_steps 2 (s' := (48, [some (.inr (.inr (some (1, 0)))), some (.inl a1), none, some (.inl v22)], [.inl a1, .inl 0, .inl r23, .inr (.inr (some (1, 0)))], m)) rfl ?_
      obtain ⟨m25, hv, hres⟩ := mm_b1_some hres
      refine e_call0 (pc := 51) (L := [some (.inr (.inr (some (1, 0)))), some (.inl a1), none, some (.inl v22)]) (st := []) (m' := m25) (v := none) rfl (k_X9_put d (by omega) r23 0 a1 _ _ hv) ?_
      show mm_E (d + 1) 58 (51, [some (.inr (.inr (some (1, 0)))), some (.inl a1), none, some (.inl v22)], [], m25) (.inl (some (.inl r.1)), r.2, 0, 0)
      refine e_steps 1 (s' := (52, [some (.inr (.inr (some (1, 0)))), some (.inl a1), none, some (.inl v22)], [.inl v22], m25)) rfl ?_
      obtain rfl := Option.some.inj hres
      exact e_ret rfl rfl
    · show mm_E (d + 1) 58 (16, [some (.inr (.inr (some (1, 0)))), some (.inl a1), some (.inl a2), some (.inl v19)], [], m) (.inl (some (.inl r.1)), r.2, 0, 0)
      refine e_steps 2 (s' := (18, [some (.inr (.inr (some (1, 0)))), some (.inl a1), some (.inl a2), some (.inl v19)], [.inl a2, .inl v19], m)) rfl ?_
      refine e_if (s1 := (39, [some (.inr (.inr (some (1, 0)))), some (.inl a1), some (.inl a2), some (.inl v19)], [], m)) (s2 := (21, [some (.inr (.inr (some (1, 0)))), some (.inl a1), some (.inl a2), some (.inl v19)], [], m)) rfl hres (fun hc hres => ?_) (fun hc hres => ?_)
      · obtain rfl := Option.some.inj hres
        exact e_mask (L' := [some (.inr (.inr (some (1, 0)))), some (.inl a1), none, some (.inl v19)]) rfl (hxl18 _ rfl)
      · refine e_steps 3 (s' := (26, [some (.inr (.inr (some (1, 0)))), some (.inl a1), some (.inl a2), some (.inl v19)], [.inl v19, .inr (.inr (some (15, 0)))], m)) rfl ?_
        refine e_gd (s1 := (27, [some (.inr (.inr (some (1, 0)))), some (.inl a1), some (.inl a2), some (.inl v19)], [.inl (m 15 0 v19.toNatClampNeg)], m)) rfl hres (fun hc hres => ?_)
        obtain ⟨r20, hv, hres⟩ := mm_b1_some hres
        refine e_call0 (pc := 30) (L := [some (.inr (.inr (some (1, 0)))), some (.inl a1), some (.inl a2), some (.inl v19)]) (st := []) (m' := m) (v := some (.inl r20)) rfl (k_X9_isLetter d (by omega) (m 15 0 v19.toNatClampNeg) _ _ hv) ?_
        show mm_E (d + 1) 58 (30, [some (.inr (.inr (some (1, 0)))), some (.inl a1), some (.inl a2), some (.inl v19)], [.inl r20], m) (.inl (some (.inl r.1)), r.2, 0, 0)
        refine e_if (s1 := (39, [some (.inr (.inr (some (1, 0)))), some (.inl a1), some (.inl a2), some (.inl v19)], [], m)) (s2 := (33, [some (.inr (.inr (some (1, 0)))), some (.inl a1), some (.inl a2), some (.inl v19)], [], m)) rfl hres (fun hc hres => ?_) (fun hc hres => ?_)
        · obtain rfl := Option.some.inj hres
          exact e_mask (L' := [some (.inr (.inr (some (1, 0)))), some (.inl a1), none, some (.inl v19)]) rfl (hxl18 _ rfl)
        · refine e_steps 1 (s' := (36, [some (.inr (.inr (some (1, 0)))), some (.inl a1), some (.inl a2), some (.inl (v19 + 1))], [], m)) rfl ?_
          refine e_let (fun (v21 : Int32) => (36, [some (.inr (.inr (some (1, 0)))), some (.inl a1), some (.inl a2), some (.inl v21)], [], m)) hres (fun v21 hres => ?_)
          refine e_steps 1 (s' := (16, [some (.inr (.inr (some (1, 0)))), some (.inl a1), some (.inl a2), some (.inl v21)], [], m)) rfl ?_
          obtain rfl := Option.some.inj hres
          exact e_mask (L' := [some (.inr (.inr (some (1, 0)))), some (.inl a1), some (.inl a2), some (.inl v21)]) rfl (hcl18 _ rfl)
/-- GlassThreads$Tape.advance()V -/
def f_X9_advance  (m : mm_M) : Option (mm_M) :=
if (m 1 0 5) ≤ ((m 1 0 6) + 1) then (some m)
else (mm_let (mm_w m 1 0 6 ((m 1 0 6) + 1)) fun m1 =>
if mm_in (m1 1 0 6) 401 then (
mm_let (mm_w m1 1 0 7 (m1 16 0 (m1 1 0 6).toNatClampNeg)) fun m2 =>
if mm_in (m2 1 0 6) 401 then (
mm_let (mm_w m2 1 0 8 (m2 17 0 (m2 1 0 6).toNatClampNeg)) fun m3 =>
some m3) else none) else none)
set_option maxHeartbeats 4000000 in
set_option maxRecDepth 100000 in
theorem k_X9_advance (d : Nat) (hd : 0 ≤ d)  (m : mm_M) (r : mm_M) (hres : f_X9_advance  m = some r) : mm_X d 60 [.inr (.inr (some (1, 0)))] m (.inl none, r, 0, 0) := by
  unfold f_X9_advance at hres
  show mm_E d 60 (0, [some (.inr (.inr (some (1, 0))))], [], m) (.inl none, r, 0, 0)
  refine e_steps 6 (s' := (10, [some (.inr (.inr (some (1, 0))))], [.inl (m 1 0 5), .inl ((m 1 0 6) + 1)], m)) rfl ?_
  refine e_if (s1 := (49, [some (.inr (.inr (some (1, 0))))], [], m)) (s2 := (13, [some (.inr (.inr (some (1, 0))))], [], m)) rfl hres (fun hc hres => ?_) (fun hc hres => ?_)
  · refine e_mask (L' := [none]) rfl ?_
    obtain rfl := Option.some.inj hres
    exact e_ret rfl rfl
  · refine e_steps 6 (s' := (23, [some (.inr (.inr (some (1, 0))))], [], (mm_w m 1 0 6 ((m 1 0 6) + 1)))) rfl ?_
    refine e_let (fun (m1 : mm_M) => (23, [some (.inr (.inr (some (1, 0))))], [], m1)) hres (fun m1 hres => ?_)
    refine e_steps 5 (s' := (32, [some (.inr (.inr (some (1, 0))))], [.inl (m1 1 0 6), .inr (.inr (some (16, 0))), .inr (.inr (some (1, 0)))], m1)) rfl ?_
    refine e_gd (s1 := (33, [some (.inr (.inr (some (1, 0))))], [.inl (m1 16 0 (m1 1 0 6).toNatClampNeg), .inr (.inr (some (1, 0)))], m1)) rfl hres (fun hc hres => ?_)
    refine e_steps 1 (s' := (36, [some (.inr (.inr (some (1, 0))))], [], (mm_w m1 1 0 7 (m1 16 0 (m1 1 0 6).toNatClampNeg)))) rfl ?_
    refine e_let (fun (m2 : mm_M) => (36, [some (.inr (.inr (some (1, 0))))], [], m2)) hres (fun m2 hres => ?_)
    refine e_steps 5 (s' := (45, [some (.inr (.inr (some (1, 0))))], [.inl (m2 1 0 6), .inr (.inr (some (17, 0))), .inr (.inr (some (1, 0)))], m2)) rfl ?_
    refine e_gd (s1 := (46, [some (.inr (.inr (some (1, 0))))], [.inl (m2 17 0 (m2 1 0 6).toNatClampNeg), .inr (.inr (some (1, 0)))], m2)) rfl hres (fun hc hres => ?_)
    refine e_steps 1 (s' := (49, [some (.inr (.inr (some (1, 0))))], [], (mm_w m2 1 0 8 (m2 17 0 (m2 1 0 6).toNatClampNeg)))) rfl ?_
    refine e_let (fun (m3 : mm_M) => (49, [some (.inr (.inr (some (1, 0))))], [], m3)) hres (fun m3 hres => ?_)
    refine e_mask (L' := [none]) rfl ?_
    obtain rfl := Option.some.inj hres
    exact e_ret rfl rfl
/-- GlassThreads$Tape.open(I)V -/
def f_X9_open (a1 : Int32) (m : mm_M) : Option (mm_M) :=
mm_let (mm_min a1 (m 1 0 1)) fun v1 =>
mm_let (mm_w m 1 0 1 0) fun m2 =>
mm_let (mm_w m2 1 0 5 0) fun m3 =>
(mm_b1 (mm_loop (σ := Int32 × Int32 × mm_M) (ρ := (mm_M)) (fun (s : Int32 × Int32 × mm_M) => match s with
| (v5, v6, m7) => (if v1 ≤ v6 then (some (.inr m7))
else (if v1 ≤ v5 then (some (.inr m7))
else (if mm_in v5 400 then (
mm_b1 (f_X9_isBlank (m7 15 0 v5.toNatClampNeg) m7) fun r8 =>
if r8 = 0 then (mm_b2 (f_X9_takeToken v5 v1 m7) fun r9 m10 =>
mm_let (v6 + 1) fun v11 =>
some (.inl (r9, v11, m10)))
else (mm_let (v5 + 1) fun v12 =>
mm_let (v6 + 1) fun v13 =>
some (.inl (v12, v13, m7)))) else none)) : Option ((Int32 × Int32 × mm_M) ⊕ ((mm_M))))) mm_fu (0, 0, m3)) fun m14 =>
mm_b1 (f_X9_put 0 0 v1 m14) fun m16 =>
mm_let (mm_w m16 1 0 9 0) fun m17 =>
mm_let (mm_w m17 1 0 10 (-1)) fun m18 =>
mm_let (mm_w m18 1 0 6 (-1)) fun m19 =>
mm_b1 (f_X9_advance m19) fun m21 =>
some m21)
set_option maxHeartbeats 4000000 in
set_option maxRecDepth 100000 in
theorem k_X9_open (d : Nat) (hd : 3 ≤ d) (a1 : Int32) (m : mm_M) (r : mm_M) (hres : f_X9_open a1 m = some r) : mm_X d 57 [.inr (.inr (some (1, 0))), .inl a1] m (.inl none, r, 0, 0) := by
  unfold f_X9_open at hres
  obtain ⟨d, rfl⟩ : ∃ e, d = e + 1 := ⟨d - 1, by omega⟩
  show mm_E (d + 1) 57 (0, [some (.inr (.inr (some (1, 0)))), some (.inl a1), none, none, none], [], m) (.inl none, r, 0, 0)
  refine e_steps 5 (s' := (9, [some (.inr (.inr (some (1, 0)))), some (.inl a1), some (.inl (mm_min a1 (m 1 0 1))), none, none], [], m)) rfl ?_
  refine e_let (fun (v1 : Int32) => (9, [some (.inr (.inr (some (1, 0)))), some (.inl a1), some (.inl v1), none, none], [], m)) hres (fun v1 hres => ?_)
  refine e_steps 3 (s' := (14, [some (.inr (.inr (some (1, 0)))), some (.inl a1), some (.inl v1), none, none], [], (mm_w m 1 0 1 0))) rfl ?_
  refine e_let (fun (m2 : mm_M) => (14, [some (.inr (.inr (some (1, 0)))), some (.inl a1), some (.inl v1), none, none], [], m2)) hres (fun m2 hres => ?_)
  refine e_steps 3 (s' := (19, [some (.inr (.inr (some (1, 0)))), some (.inl a1), some (.inl v1), none, none], [], (mm_w m2 1 0 5 0))) rfl ?_
  refine e_let (fun (m3 : mm_M) => (19, [some (.inr (.inr (some (1, 0)))), some (.inl a1), some (.inl v1), none, none], [], m3)) hres (fun m3 hres => ?_)
  refine e_steps 4 (s' := (24, [some (.inr (.inr (some (1, 0)))), some (.inl a1), some (.inl v1), some (.inl 0), some (.inl 0)], [], m3)) rfl ?_
  refine e_mask (L' := [some (.inr (.inr (some (1, 0)))), none, some (.inl v1), some (.inl 0), some (.inl 0)]) rfl ?_
  refine e_loopb (φ := fun s => (24, [some (.inr (.inr (some (1, 0)))), none, some (.inl v1), some (.inl s.1), some (.inl s.2.1)], [], s.2.2)) (K := fun t => mm_E (d + 1) 57 (66, [some (.inr (.inr (some (1, 0)))), none, some (.inl v1), none, none], [], t) (.inl none, r, 0, 0)) hres (fun m14 hres => ?_) (fun s ol4 hres hcl4 hxl4 => ?_)
  · show mm_E (d + 1) 57 (66, [some (.inr (.inr (some (1, 0)))), none, some (.inl v1), none, none], [], m14) (.inl none, r, 0, 0)
    refine e_steps 4 (s' := (70, [some (.inr (.inr (some (1, 0)))), none, some (.inl v1), none, none], [.inl v1, .inl 0, .inl 0, .inr (.inr (some (1, 0)))], m14)) rfl ?_
    obtain ⟨m16, hv, hres⟩ := mm_b1_some hres
    refine e_call0 (pc := 73) (L := [some (.inr (.inr (some (1, 0)))), none, some (.inl v1), none, none]) (st := []) (m' := m16) (v := none) rfl (k_X9_put d (by omega) 0 0 v1 _ _ hv) ?_
    show mm_E (d + 1) 57 (73, [some (.inr (.inr (some (1, 0)))), none, some (.inl v1), none, none], [], m16) (.inl none, r, 0, 0)
    refine e_steps 3 (s' := (78, [some (.inr (.inr (some (1, 0)))), none, some (.inl v1), none, none], [], (mm_w m16 1 0 9 0))) rfl ?_
    refine e_let (fun (m17 : mm_M) => (78, [some (.inr (.inr (some (1, 0)))), none, some (.inl v1), none, none], [], m17)) hres (fun m17 hres => ?_)
    refine e_steps 3 (s' := (83, [some (.inr (.inr (some (1, 0)))), none, some (.inl v1), none, none], [], (mm_w m17 1 0 10 (-1)))) rfl ?_
    refine e_let (fun (m18 : mm_M) => (83, [some (.inr (.inr (some (1, 0)))), none, some (.inl v1), none, none], [], m18)) hres (fun m18 hres => ?_)
    refine e_steps 3 (s' := (88, [some (.inr (.inr (some (1, 0)))), none, some (.inl v1), none, none], [], (mm_w m18 1 0 6 (-1)))) rfl ?_
    refine e_let (fun (m19 : mm_M) => (88, [some (.inr (.inr (some (1, 0)))), none, some (.inl v1), none, none], [], m19)) hres (fun m19 hres => ?_)
    refine e_steps 1 (s' := (89, [some (.inr (.inr (some (1, 0)))), none, some (.inl v1), none, none], [.inr (.inr (some (1, 0)))], m19)) rfl ?_
    obtain ⟨m21, hv, hres⟩ := mm_b1_some hres
    refine e_call0 (pc := 92) (L := [some (.inr (.inr (some (1, 0)))), none, some (.inl v1), none, none]) (st := []) (m' := m21) (v := none) rfl (k_X9_advance d (by omega)  _ _ hv) ?_
    show mm_E (d + 1) 57 (92, [some (.inr (.inr (some (1, 0)))), none, some (.inl v1), none, none], [], m21) (.inl none, r, 0, 0)
    obtain rfl := Option.some.inj hres
    exact e_ret rfl rfl
  · obtain ⟨v5, v6, m7⟩ := s
    show mm_E (d + 1) 57 (24, [some (.inr (.inr (some (1, 0)))), none, some (.inl v1), some (.inl v5), some (.inl v6)], [], m7) (.inl none, r, 0, 0)
    refine e_steps 2 (s' := (27, [some (.inr (.inr (some (1, 0)))), none, some (.inl v1), some (.inl v5), some (.inl v6)], [.inl v1, .inl v6], m7)) rfl ?_
    refine e_if (s1 := (66, [some (.inr (.inr (some (1, 0)))), none, some (.inl v1), some (.inl v5), some (.inl v6)], [], m7)) (s2 := (30, [some (.inr (.inr (some (1, 0)))), none, some (.inl v1), some (.inl v5), some (.inl v6)], [], m7)) rfl hres (fun hc hres => ?_) (fun hc hres => ?_)
    · obtain rfl := Option.some.inj hres
      exact e_mask (L' := [some (.inr (.inr (some (1, 0)))), none, some (.inl v1), none, none]) rfl (hxl4 _ rfl)
    · refine e_steps 2 (s' := (32, [some (.inr (.inr (some (1, 0)))), none, some (.inl v1), some (.inl v5), some (.inl v6)], [.inl v1, .inl v5], m7)) rfl ?_
      refine e_if (s1 := (66, [some (.inr (.inr (some (1, 0)))), none, some (.inl v1), some (.inl v5), some (.inl v6)], [], m7)) (s2 := (35, [some (.inr (.inr (some (1, 0)))), none, some (.inl v1), some (.inl v5), some (.inl v6)], [], m7)) rfl hres (fun hc hres => ?_) (fun hc hres => ?_)
      · obtain rfl := Option.some.inj hres
        exact e_mask (L' := [some (.inr (.inr (some (1, 0)))), none, some (.inl v1), none, none]) rfl (hxl4 _ rfl)
      · refine e_steps 3 (s' := (40, [some (.inr (.inr (some (1, 0)))), none, some (.inl v1), some (.inl v5), some (.inl v6)], [.inl v5, .inr (.inr (some (15, 0)))], m7)) rfl ?_
        refine e_gd (s1 := (41, [some (.inr (.inr (some (1, 0)))), none, some (.inl v1), some (.inl v5), some (.inl v6)], [.inl (m7 15 0 v5.toNatClampNeg)], m7)) rfl hres (fun hc hres => ?_)
        obtain ⟨r8, hv, hres⟩ := mm_b1_some hres
        refine e_call0 (pc := 44) (L := [some (.inr (.inr (some (1, 0)))), none, some (.inl v1), some (.inl v5), some (.inl v6)]) (st := []) (m' := m7) (v := some (.inl r8)) rfl (k_X9_isBlank d (by omega) (m7 15 0 v5.toNatClampNeg) _ _ hv) ?_
        show mm_E (d + 1) 57 (44, [some (.inr (.inr (some (1, 0)))), none, some (.inl v1), some (.inl v5), some (.inl v6)], [.inl r8], m7) (.inl none, r, 0, 0)
        refine e_if (s1 := (53, [some (.inr (.inr (some (1, 0)))), none, some (.inl v1), some (.inl v5), some (.inl v6)], [], m7)) (s2 := (47, [some (.inr (.inr (some (1, 0)))), none, some (.inl v1), some (.inl v5), some (.inl v6)], [], m7)) rfl hres (fun hc hres => ?_) (fun hc hres => ?_)
        · refine e_steps 3 (s' := (56, [some (.inr (.inr (some (1, 0)))), none, some (.inl v1), some (.inl v5), some (.inl v6)], [.inl v1, .inl v5, .inr (.inr (some (1, 0)))], m7)) rfl ?_
          obtain ⟨r9, m10, hv, hres⟩ := mm_b2_some hres
          refine e_call0 (pc := 59) (L := [some (.inr (.inr (some (1, 0)))), none, some (.inl v1), some (.inl v5), some (.inl v6)]) (st := []) (m' := m10) (v := some (.inl r9)) rfl (k_X9_takeToken d (by omega) v5 v1 _ _ hv) ?_
          show mm_E (d + 1) 57 (59, [some (.inr (.inr (some (1, 0)))), none, some (.inl v1), some (.inl v5), some (.inl v6)], [.inl r9], m10) (.inl none, r, 0, 0)
          refine e_mask (L' := [some (.inr (.inr (some (1, 0)))), none, some (.inl v1), none, some (.inl v6)]) rfl ?_
          refine e_steps 2 (s' := (63, [some (.inr (.inr (some (1, 0)))), none, some (.inl v1), some (.inl r9), some (.inl (v6 + 1))], [], m10)) rfl ?_
          refine e_let (fun (v11 : Int32) => (63, [some (.inr (.inr (some (1, 0)))), none, some (.inl v1), some (.inl r9), some (.inl v11)], [], m10)) hres (fun v11 hres => ?_)
          refine e_steps 1 (s' := (24, [some (.inr (.inr (some (1, 0)))), none, some (.inl v1), some (.inl r9), some (.inl v11)], [], m10)) rfl ?_
          obtain rfl := Option.some.inj hres
          exact e_mask (L' := [some (.inr (.inr (some (1, 0)))), none, some (.inl v1), some (.inl r9), some (.inl v11)]) rfl (hcl4 _ rfl)
        · refine e_steps 4 (s' := (59, [some (.inr (.inr (some (1, 0)))), none, some (.inl v1), some (.inl v5), some (.inl v6)], [.inl (v5 + 1)], m7)) rfl ?_
          refine e_mask (L' := [some (.inr (.inr (some (1, 0)))), none, some (.inl v1), none, some (.inl v6)]) rfl ?_
          refine e_steps 1 (s' := (60, [some (.inr (.inr (some (1, 0)))), none, some (.inl v1), some (.inl (v5 + 1)), some (.inl v6)], [], m7)) rfl ?_
          refine e_let (fun (v12 : Int32) => (60, [some (.inr (.inr (some (1, 0)))), none, some (.inl v1), some (.inl v12), some (.inl v6)], [], m7)) hres (fun v12 hres => ?_)
          refine e_steps 1 (s' := (63, [some (.inr (.inr (some (1, 0)))), none, some (.inl v1), some (.inl v12), some (.inl (v6 + 1))], [], m7)) rfl ?_
          refine e_let (fun (v13 : Int32) => (63, [some (.inr (.inr (some (1, 0)))), none, some (.inl v1), some (.inl v12), some (.inl v13)], [], m7)) hres (fun v13 hres => ?_)
          refine e_steps 1 (s' := (24, [some (.inr (.inr (some (1, 0)))), none, some (.inl v1), some (.inl v12), some (.inl v13)], [], m7)) rfl ?_
          obtain rfl := Option.some.inj hres
          exact e_mask (L' := [some (.inr (.inr (some (1, 0)))), none, some (.inl v1), some (.inl v12), some (.inl v13)]) rfl (hcl4 _ rfl)
/-- GlassThreads$Tape.isNumberIn(II)Z -/
def f_X9_isNumberIn (a1 : Int32) (a2 : Int32) (m : mm_M) : Option (Int32) :=
if (m 1 0 7) ≠ 2 then (some 0)
else (if (m 1 0 8) < a1 then (some 0)
else (if a2 < (m 1 0 8) then (some 0)
else (some 1)))
set_option maxHeartbeats 4000000 in
set_option maxRecDepth 100000 in
theorem k_X9_isNumberIn (d : Nat) (hd : 0 ≤ d) (a1 : Int32) (a2 : Int32) (m : mm_M) (r : Int32) (hres : f_X9_isNumberIn a1 a2 m = some r) : mm_X d 64 [.inr (.inr (some (1, 0))), .inl a1, .inl a2] m (.inl (some (.inl r)), m, 0, 0) := by
  unfold f_X9_isNumberIn at hres
  show mm_E d 64 (0, [some (.inr (.inr (some (1, 0)))), some (.inl a1), some (.inl a2)], [], m) (.inl (some (.inl r)), m, 0, 0)
  refine e_steps 3 (s' := (5, [some (.inr (.inr (some (1, 0)))), some (.inl a1), some (.inl a2)], [.inl 2, .inl (m 1 0 7)], m)) rfl ?_
  refine e_if (s1 := (28, [some (.inr (.inr (some (1, 0)))), some (.inl a1), some (.inl a2)], [], m)) (s2 := (8, [some (.inr (.inr (some (1, 0)))), some (.inl a1), some (.inl a2)], [], m)) rfl hres (fun hc hres => ?_) (fun hc hres => ?_)
  · refine e_mask (L' := [none, none, none]) rfl ?_
    refine e_steps 1 (s' := (29, [none, none, none], [.inl 0], m)) rfl ?_
    obtain rfl := Option.some.inj hres
    exact e_ret rfl rfl
  · refine e_steps 3 (s' := (13, [some (.inr (.inr (some (1, 0)))), some (.inl a1), some (.inl a2)], [.inl a1, .inl (m 1 0 8)], m)) rfl ?_
    refine e_if (s1 := (28, [some (.inr (.inr (some (1, 0)))), some (.inl a1), some (.inl a2)], [], m)) (s2 := (16, [some (.inr (.inr (some (1, 0)))), some (.inl a1), some (.inl a2)], [], m)) rfl hres (fun hc hres => ?_) (fun hc hres => ?_)
    · refine e_mask (L' := [none, none, none]) rfl ?_
      refine e_steps 1 (s' := (29, [none, none, none], [.inl 0], m)) rfl ?_
      obtain rfl := Option.some.inj hres
      exact e_ret rfl rfl
    · refine e_steps 3 (s' := (21, [some (.inr (.inr (some (1, 0)))), some (.inl a1), some (.inl a2)], [.inl a2, .inl (m 1 0 8)], m)) rfl ?_
      refine e_if (s1 := (28, [some (.inr (.inr (some (1, 0)))), some (.inl a1), some (.inl a2)], [], m)) (s2 := (24, [some (.inr (.inr (some (1, 0)))), some (.inl a1), some (.inl a2)], [], m)) rfl hres (fun hc hres => ?_) (fun hc hres => ?_)
      · refine e_mask (L' := [none, none, none]) rfl ?_
        refine e_steps 1 (s' := (29, [none, none, none], [.inl 0], m)) rfl ?_
        obtain rfl := Option.some.inj hres
        exact e_ret rfl rfl
      · refine e_steps 2 (s' := (29, [some (.inr (.inr (some (1, 0)))), some (.inl a1), some (.inl a2)], [.inl 1], m)) rfl ?_
        refine e_mask (L' := [none, none, none]) rfl ?_
        obtain rfl := Option.some.inj hres
        exact e_ret rfl rfl
/-- GlassThreads$Tape.refuse(I)Z -/
def f_X9_refuse (a1 : Int32) (m : mm_M) : Option (Int32 × mm_M) :=
mm_let (mm_w m 1 0 9 a1) fun m1 =>
if 0 ≤ (m1 1 0 6) then (if mm_in (m1 1 0 6) 401 then (
mm_let (mm_w m1 1 0 10 (m1 18 0 (m1 1 0 6).toNatClampNeg)) fun m2 =>
some (0, m2)) else none)
else (mm_let (mm_w m1 1 0 10 0) fun m3 =>
some (0, m3))
set_option maxHeartbeats 4000000 in
set_option maxRecDepth 100000 in
theorem k_X9_refuse (d : Nat) (hd : 0 ≤ d) (a1 : Int32) (m : mm_M) (r : Int32 × mm_M) (hres : f_X9_refuse a1 m = some r) : mm_X d 65 [.inr (.inr (some (1, 0))), .inl a1] m (.inl (some (.inl r.1)), r.2, 0, 0) := by
  unfold f_X9_refuse at hres
  show mm_E d 65 (0, [some (.inr (.inr (some (1, 0)))), some (.inl a1)], [], m) (.inl (some (.inl r.1)), r.2, 0, 0)
  refine e_steps 3 (s' := (5, [some (.inr (.inr (some (1, 0)))), some (.inl a1)], [], (mm_w m 1 0 9 a1))) rfl ?_
  refine e_let (fun (m1 : mm_M) => (5, [some (.inr (.inr (some (1, 0)))), some (.inl a1)], [], m1)) hres (fun m1 hres => ?_)
  refine e_steps 3 (s' := (10, [some (.inr (.inr (some (1, 0)))), some (.inl a1)], [.inl (m1 1 0 6), .inr (.inr (some (1, 0)))], m1)) rfl ?_
  refine e_if (s1 := (17, [some (.inr (.inr (some (1, 0)))), some (.inl a1)], [.inr (.inr (some (1, 0)))], m1)) (s2 := (13, [some (.inr (.inr (some (1, 0)))), some (.inl a1)], [.inr (.inr (some (1, 0)))], m1)) rfl hres (fun hc hres => ?_) (fun hc hres => ?_)
  · refine e_steps 4 (s' := (25, [some (.inr (.inr (some (1, 0)))), some (.inl a1)], [.inl (m1 1 0 6), .inr (.inr (some (18, 0))), .inr (.inr (some (1, 0)))], m1)) rfl ?_
    refine e_gd (s1 := (26, [some (.inr (.inr (some (1, 0)))), some (.inl a1)], [.inl (m1 18 0 (m1 1 0 6).toNatClampNeg), .inr (.inr (some (1, 0)))], m1)) rfl hres (fun hc hres => ?_)
    refine e_mask (L' := [none, none]) rfl ?_
    refine e_steps 1 (s' := (29, [none, none], [], (mm_w m1 1 0 10 (m1 18 0 (m1 1 0 6).toNatClampNeg)))) rfl ?_
    refine e_let (fun (m2 : mm_M) => (29, [none, none], [], m2)) hres (fun m2 hres => ?_)
    refine e_steps 1 (s' := (30, [none, none], [.inl 0], m2)) rfl ?_
    obtain rfl := Option.some.inj hres
    exact e_ret rfl rfl
  · refine e_steps 2 (s' := (26, [some (.inr (.inr (some (1, 0)))), some (.inl a1)], [.inl 0, .inr (.inr (some (1, 0)))], m1)) rfl ?_
    refine e_mask (L' := [none, none]) rfl ?_
    refine e_steps 1 (s' := (29, [none, none], [], (mm_w m1 1 0 10 0))) rfl ?_
    refine e_let (fun (m3 : mm_M) => (29, [none, none], [], m3)) hres (fun m3 hres => ?_)
    refine e_steps 1 (s' := (30, [none, none], [.inl 0], m3)) rfl ?_
    obtain rfl := Option.some.inj hres
    exact e_ret rfl rfl
/-- GlassThreads$Tape.refuseNumber()Z -/
def f_X9_refuseNumber  (m : mm_M) : Option (Int32 × mm_M) :=
if (m 1 0 7) ≠ 2 then (mm_b2 (f_X9_refuse 1 m) fun r1 m2 =>
if r1 = 0 ∨ r1 = 1 then some (r1, m2) else none)
else (mm_b2 (f_X9_refuse 2 m) fun r3 m4 =>
if r3 = 0 ∨ r3 = 1 then some (r3, m4) else none)
set_option maxHeartbeats 4000000 in
set_option maxRecDepth 100000 in
theorem k_X9_refuseNumber (d : Nat) (hd : 1 ≤ d)  (m : mm_M) (r : Int32 × mm_M) (hres : f_X9_refuseNumber  m = some r) : mm_X d 66 [.inr (.inr (some (1, 0)))] m (.inl (some (.inl r.1)), r.2, 0, 0) := by
  unfold f_X9_refuseNumber at hres
  obtain ⟨d, rfl⟩ : ∃ e, d = e + 1 := ⟨d - 1, by omega⟩
  show mm_E (d + 1) 66 (0, [some (.inr (.inr (some (1, 0))))], [], m) (.inl (some (.inl r.1)), r.2, 0, 0)
  refine e_steps 4 (s' := (6, [some (.inr (.inr (some (1, 0))))], [.inl 2, .inl (m 1 0 7), .inr (.inr (some (1, 0)))], m)) rfl ?_
  refine e_if (s1 := (13, [some (.inr (.inr (some (1, 0))))], [.inr (.inr (some (1, 0)))], m)) (s2 := (9, [some (.inr (.inr (some (1, 0))))], [.inr (.inr (some (1, 0)))], m)) rfl hres (fun hc hres => ?_) (fun hc hres => ?_)
  · refine e_steps 1 (s' := (14, [some (.inr (.inr (some (1, 0))))], [.inl 1, .inr (.inr (some (1, 0)))], m)) rfl ?_
    refine e_mask (L' := [none]) rfl ?_
    obtain ⟨r1, m2, hv, hres⟩ := mm_b2_some hres
    refine e_call0 (pc := 17) (L := [none]) (st := []) (m' := m2) (v := some (.inl r1)) rfl (k_X9_refuse d (by omega) 1 _ _ hv) ?_
    show mm_E (d + 1) 66 (17, [none], [.inl r1], m2) (.inl (some (.inl r.1)), r.2, 0, 0)
    refine e_gr (o := .inl (some (.inl r1))) rfl hres (fun hc hres => ?_)
    obtain rfl := Option.some.inj hres
    rfl
  · refine e_steps 2 (s' := (14, [some (.inr (.inr (some (1, 0))))], [.inl 2, .inr (.inr (some (1, 0)))], m)) rfl ?_
    refine e_mask (L' := [none]) rfl ?_
    obtain ⟨r3, m4, hv, hres⟩ := mm_b2_some hres
    refine e_call0 (pc := 17) (L := [none]) (st := []) (m' := m4) (v := some (.inl r3)) rfl (k_X9_refuse d (by omega) 2 _ _ hv) ?_
    show mm_E (d + 1) 66 (17, [none], [.inl r3], m4) (.inl (some (.inl r.1)), r.2, 0, 0)
    refine e_gr (o := .inl (some (.inl r3))) rfl hres (fun hc hres => ?_)
    obtain rfl := Option.some.inj hres
    rfl
/-- GlassThreads$Tape.passSign(C)Z -/
def f_X9_passSign (a1 : Int32) (m : mm_M) : Option (Int32 × mm_M) :=
if (m 1 0 7) = a1 then (mm_b1 (f_X9_advance m) fun m2 =>
some (1, m2))
else (mm_b2 (f_X9_refuse 1 m) fun r3 m4 =>
if r3 = 0 ∨ r3 = 1 then some (r3, m4) else none)
set_option maxHeartbeats 4000000 in
set_option maxRecDepth 100000 in
theorem k_X9_passSign (d : Nat) (hd : 1 ≤ d) (a1 : Int32) (m : mm_M) (r : Int32 × mm_M) (hres : f_X9_passSign a1 m = some r) : mm_X d 67 [.inr (.inr (some (1, 0))), .inl a1] m (.inl (some (.inl r.1)), r.2, 0, 0) := by
  unfold f_X9_passSign at hres
  obtain ⟨d, rfl⟩ : ∃ e, d = e + 1 := ⟨d - 1, by omega⟩
  show mm_E (d + 1) 67 (0, [some (.inr (.inr (some (1, 0)))), some (.inl a1)], [], m) (.inl (some (.inl r.1)), r.2, 0, 0)
  refine e_steps 3 (s' := (5, [some (.inr (.inr (some (1, 0)))), some (.inl a1)], [.inl a1, .inl (m 1 0 7)], m)) rfl ?_
  refine e_if (s1 := (14, [some (.inr (.inr (some (1, 0)))), some (.inl a1)], [], m)) (s2 := (8, [some (.inr (.inr (some (1, 0)))), some (.inl a1)], [], m)) rfl hres (fun hc hres => ?_) (fun hc hres => ?_)
  · refine e_steps 1 (s' := (15, [some (.inr (.inr (some (1, 0)))), some (.inl a1)], [.inr (.inr (some (1, 0)))], m)) rfl ?_
    obtain ⟨m2, hv, hres⟩ := mm_b1_some hres
    refine e_call0 (pc := 18) (L := [some (.inr (.inr (some (1, 0)))), some (.inl a1)]) (st := []) (m' := m2) (v := none) rfl (k_X9_advance d (by omega)  _ _ hv) ?_
    show mm_E (d + 1) 67 (18, [some (.inr (.inr (some (1, 0)))), some (.inl a1)], [], m2) (.inl (some (.inl r.1)), r.2, 0, 0)
    refine e_steps 1 (s' := (19, [some (.inr (.inr (some (1, 0)))), some (.inl a1)], [.inl 1], m2)) rfl ?_
    obtain rfl := Option.some.inj hres
    exact e_ret rfl rfl
  · refine e_steps 2 (s' := (10, [some (.inr (.inr (some (1, 0)))), some (.inl a1)], [.inl 1, .inr (.inr (some (1, 0)))], m)) rfl ?_
    obtain ⟨r3, m4, hv, hres⟩ := mm_b2_some hres
    refine e_call0 (pc := 13) (L := [some (.inr (.inr (some (1, 0)))), some (.inl a1)]) (st := []) (m' := m4) (v := some (.inl r3)) rfl (k_X9_refuse d (by omega) 1 _ _ hv) ?_
    show mm_E (d + 1) 67 (13, [some (.inr (.inr (some (1, 0)))), some (.inl a1)], [.inl r3], m4) (.inl (some (.inl r.1)), r.2, 0, 0)
    refine e_gr (o := .inl (some (.inl r3))) rfl hres (fun hc hres => ?_)
    obtain rfl := Option.some.inj hres
    rfl
/-- GlassThreads$Tape.isWord(I)Z -/
def f_X9_isWord (a0 : Int32) (m : mm_M) : Option (Int32) :=
if a0 = 3 then (some 1)
else (if a0 < 256 then (some 0)
else (some 1))
set_option maxHeartbeats 4000000 in
set_option maxRecDepth 100000 in
theorem k_X9_isWord (d : Nat) (hd : 0 ≤ d) (a0 : Int32) (m : mm_M) (r : Int32) (hres : f_X9_isWord a0 m = some r) : mm_X d 68 [.inl a0] m (.inl (some (.inl r)), m, 0, 0) := by
  unfold f_X9_isWord at hres
  show mm_E d 68 (0, [some (.inl a0)], [], m) (.inl (some (.inl r)), m, 0, 0)
  refine e_steps 2 (s' := (2, [some (.inl a0)], [.inl 3, .inl a0], m)) rfl ?_
  refine e_if (s1 := (12, [some (.inl a0)], [], m)) (s2 := (5, [some (.inl a0)], [], m)) rfl hres (fun hc hres => ?_) (fun hc hres => ?_)
  · refine e_mask (L' := [none]) rfl ?_
    refine e_steps 2 (s' := (17, [none], [.inl 1], m)) rfl ?_
    obtain rfl := Option.some.inj hres
    exact e_ret rfl rfl
  · refine e_steps 2 (s' := (9, [some (.inl a0)], [.inl 256, .inl a0], m)) rfl ?_
    refine e_if (s1 := (16, [some (.inl a0)], [], m)) (s2 := (12, [some (.inl a0)], [], m)) rfl hres (fun hc hres => ?_) (fun hc hres => ?_)
    · refine e_steps 1 (s' := (17, [some (.inl a0)], [.inl 0], m)) rfl ?_
      refine e_mask (L' := [none]) rfl ?_
      obtain rfl := Option.some.inj hres
      exact e_ret rfl rfl
    · refine e_mask (L' := [none]) rfl ?_
      refine e_steps 2 (s' := (17, [none], [.inl 1], m)) rfl ?_
      obtain rfl := Option.some.inj hres
      exact e_ret rfl rfl
