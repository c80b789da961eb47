/-! the law's own methods, as steps of the little machine (by program: wip/gen/gen_law.py) -/
theorem q_if {d k : Nat} {s s1 s2 : mm_S} {r : mm_R} {c : Prop} [Decidable c] (h : mm_step k s = if c then some (.inl s1) else some (.inl s2)) (h1 : c → mm_E d k s1 r) (h2 : ¬ c → mm_E d k s2 r) : mm_E d k s r := by
  by_cases hc : c
  · rw [if_pos hc] at h
    exact e_step h (h1 hc)
  · rw [if_neg hc] at h
    exact e_step h (h2 hc)
theorem q_gd {d k : Nat} {s s1 : mm_S} {r : mm_R} {c : Prop} [Decidable c] (h : mm_step k s = if c then some (.inl s1) else none) (hc : c) (e : mm_E d k s1 r) : mm_E d k s r := by
  rw [if_pos hc] at h
  exact e_step h e
theorem q_ld {d k pc : Nat} {L : List (Option mm_V)} {st : List mm_V} {m : mm_M} {s : mm_S} {r : mm_R} {c : Prop} [Decidable c] {x a : Int32} (h : mm_step k s = if c then some (.inl (pc, L, .inl x :: st, m)) else none) (hc : c) (hx : x = a) (e : mm_E d k (pc, L, .inl a :: st, m) r) : mm_E d k s r := by
  subst hx
  exact q_gd h hc e
/-- a boolean out of a number -/
def mm_bz (x : Int32) : Int32 := if x = 0 then 0 else 1
theorem mm_bz0 {x : Int32} (h : x = 0) : mm_bz x = 0 := if_pos h
theorem mm_bz1 {x : Int32} (h : ¬ x = 0) : mm_bz x = 1 := if_neg h
theorem mm_cmp0 {a b : Int32} (h : a = b) : mm_cmp a b = 0 := if_pos h
/-- the script's row at v -/
def q_at (m : mm_M) (v : Int32) (a : Nat → Int32) : Prop := ∀ j, j < 9 → mm_in (v + Int32.ofNat j) (m 134 1 0).toNatClampNeg ∧ m 134 0 (v + Int32.ofNat j).toNatClampNeg = a j
-- GlassThreadsLaw.thread
set_option maxRecDepth 100000 in
theorem w_256 {d : Nat} {a1 a2 : Int32} {m m1 : mm_M} {v : Int32} (hX : mm_X d 1 [.inr (.inr (some (0, 0))), .inl a1, .inl a2] m (.inl (some (.inl v)), m1, 0, 0)) : mm_X (d + 1) 256 [.inr (.inr (some (0, 0))), .inl a1, .inl a2, .inr (.inr (some (133, 0)))] m (.inl (some (.inl 0)), (mm_w m1 133 0 0 v), 0, 0) := by
  show mm_E (d + 1) 256 (0, [some (.inr (.inr (some (0, 0)))), some (.inl a1), some (.inl a2), some (.inr (.inr (some (133, 0)))), none], [], m) _
  refine e_steps 5 (s' := (5, [some (.inr (.inr (some (0, 0)))), some (.inl a1), some (.inl a2), some (.inr (.inr (some (133, 0)))), none], [.inl a2, .inl a1, .inr (.inr (some (0, 0))), .inl 0, .inr (.inr (some (133, 0)))], m)) rfl ?_
  refine e_call0 (v := some (.inl v)) rfl hX ?_
  refine e_steps 1 (s' := (9, [some (.inr (.inr (some (0, 0)))), some (.inl a1), some (.inl a2), some (.inr (.inr (some (133, 0)))), none], [.inr (.inl v), .inl 0, .inr (.inr (some (133, 0)))], m1)) rfl ?_
  refine e_steps 3 (s' := (18, [some (.inr (.inr (some (0, 0)))), some (.inl a1), some (.inl a2), some (.inr (.inr (some (133, 0)))), none], [.inl 0], (mm_w m1 133 0 0 v))) rfl ?_
  exact e_ret rfl rfl
set_option maxRecDepth 100000 in
theorem w_256_0 {d : Nat} {a1 a2 : Int32} {m m1 : mm_M} (hX : mm_X d 1 [.inr (.inr (some (0, 0))), .inl a1, .inl a2] m (.inr 0, m1, 1, 6)) : mm_X (d + 1) 256 [.inr (.inr (some (0, 0))), .inl a1, .inl a2, .inr (.inr (some (133, 0)))] m (.inl (some (.inl 1)), m1, 1, 6) := by
  show mm_E (d + 1) 256 (0, [some (.inr (.inr (some (0, 0)))), some (.inl a1), some (.inl a2), some (.inr (.inr (some (133, 0)))), none], [], m) _
  refine e_steps 5 (s' := (5, [some (.inr (.inr (some (0, 0)))), some (.inl a1), some (.inl a2), some (.inr (.inr (some (133, 0)))), none], [.inl a2, .inl a1, .inr (.inr (some (0, 0))), .inl 0, .inr (.inr (some (133, 0)))], m)) rfl ?_
  refine e_callh (hp := 13) (c := 1) (z := 6) (r := (.inl (some (.inl 1)), m1, 0, 0)) rfl rfl hX ?_
  refine e_steps 2 (s' := (16, [some (.inr (.inr (some (0, 0)))), some (.inl a1), some (.inl a2), some (.inr (.inr (some (133, 0)))), some (.inr (.inr (some (999, 0))))], [.inl 1], m1)) rfl ?_
  exact e_ret rfl rfl
-- GlassThreadsLaw.law
set_option maxRecDepth 100000 in
theorem w_257 {d : Nat} {a1 : Int32} {m m1 : mm_M} {v : Int32} (hX : mm_X d 2 [.inr (.inr (some (0, 0))), .inl a1] m (.inl (some (.inl v)), m1, 0, 0)) : mm_X (d + 1) 257 [.inr (.inr (some (0, 0))), .inl a1, .inr (.inr (some (133, 0)))] m (.inl (some (.inl 0)), (mm_w m1 133 0 0 v), 0, 0) := by
  show mm_E (d + 1) 257 (0, [some (.inr (.inr (some (0, 0)))), some (.inl a1), some (.inr (.inr (some (133, 0)))), none], [], m) _
  refine e_steps 4 (s' := (4, [some (.inr (.inr (some (0, 0)))), some (.inl a1), some (.inr (.inr (some (133, 0)))), none], [.inl a1, .inr (.inr (some (0, 0))), .inl 0, .inr (.inr (some (133, 0)))], m)) rfl ?_
  refine e_call0 (v := some (.inl v)) rfl hX ?_
  refine e_steps 1 (s' := (8, [some (.inr (.inr (some (0, 0)))), some (.inl a1), some (.inr (.inr (some (133, 0)))), none], [.inr (.inl v), .inl 0, .inr (.inr (some (133, 0)))], m1)) rfl ?_
  refine e_steps 3 (s' := (16, [some (.inr (.inr (some (0, 0)))), some (.inl a1), some (.inr (.inr (some (133, 0)))), none], [.inl 0], (mm_w m1 133 0 0 v))) rfl ?_
  exact e_ret rfl rfl
set_option maxRecDepth 100000 in
theorem w_257_0 {d : Nat} {a1 : Int32} {m m1 : mm_M} (hX : mm_X d 2 [.inr (.inr (some (0, 0))), .inl a1] m (.inr 0, m1, 1, 6)) : mm_X (d + 1) 257 [.inr (.inr (some (0, 0))), .inl a1, .inr (.inr (some (133, 0)))] m (.inl (some (.inl 1)), m1, 1, 6) := by
  show mm_E (d + 1) 257 (0, [some (.inr (.inr (some (0, 0)))), some (.inl a1), some (.inr (.inr (some (133, 0)))), none], [], m) _
  refine e_steps 4 (s' := (4, [some (.inr (.inr (some (0, 0)))), some (.inl a1), some (.inr (.inr (some (133, 0)))), none], [.inl a1, .inr (.inr (some (0, 0))), .inl 0, .inr (.inr (some (133, 0)))], m)) rfl ?_
  refine e_callh (hp := 12) (c := 1) (z := 6) (r := (.inl (some (.inl 1)), m1, 0, 0)) rfl rfl hX ?_
  refine e_steps 2 (s' := (14, [some (.inr (.inr (some (0, 0)))), some (.inl a1), some (.inr (.inr (some (133, 0)))), some (.inr (.inr (some (999, 0))))], [.inl 1], m1)) rfl ?_
  exact e_ret rfl rfl
-- GlassThreadsLaw.part
set_option maxRecDepth 100000 in
theorem w_258 {d : Nat} {a1 a2 a3 : Int32} {m m1 : mm_M} {v : Int32} (hX : mm_X d 4 [.inr (.inr (some (0, 0))), .inl a1, .inl a2, .inl a3] m (.inl (some (.inl v)), m1, 0, 0)) : mm_X (d + 1) 258 [.inr (.inr (some (0, 0))), .inl a1, .inl a2, .inl a3, .inr (.inr (some (133, 0)))] m (.inl (some (.inl 0)), (mm_w m1 133 0 0 v), 0, 0) := by
  show mm_E (d + 1) 258 (0, [some (.inr (.inr (some (0, 0)))), some (.inl a1), some (.inl a2), some (.inl a3), some (.inr (.inr (some (133, 0)))), none], [], m) _
  refine e_steps 6 (s' := (7, [some (.inr (.inr (some (0, 0)))), some (.inl a1), some (.inl a2), some (.inl a3), some (.inr (.inr (some (133, 0)))), none], [.inl a3, .inl a2, .inl a1, .inr (.inr (some (0, 0))), .inl 0, .inr (.inr (some (133, 0)))], m)) rfl ?_
  refine e_call0 (v := some (.inl v)) rfl hX ?_
  refine e_steps 1 (s' := (11, [some (.inr (.inr (some (0, 0)))), some (.inl a1), some (.inl a2), some (.inl a3), some (.inr (.inr (some (133, 0)))), none], [.inr (.inl v), .inl 0, .inr (.inr (some (133, 0)))], m1)) rfl ?_
  refine e_steps 3 (s' := (20, [some (.inr (.inr (some (0, 0)))), some (.inl a1), some (.inl a2), some (.inl a3), some (.inr (.inr (some (133, 0)))), none], [.inl 0], (mm_w m1 133 0 0 v))) rfl ?_
  exact e_ret rfl rfl
set_option maxRecDepth 100000 in
theorem w_258_1 {d : Nat} {a1 a2 a3 : Int32} {m m1 : mm_M} (hX : mm_X d 4 [.inr (.inr (some (0, 0))), .inl a1, .inl a2, .inl a3] m (.inr 1, m1, 1, 6)) : mm_X (d + 1) 258 [.inr (.inr (some (0, 0))), .inl a1, .inl a2, .inl a3, .inr (.inr (some (133, 0)))] m (.inl (some (.inl 1)), m1, 1, 6) := by
  show mm_E (d + 1) 258 (0, [some (.inr (.inr (some (0, 0)))), some (.inl a1), some (.inl a2), some (.inl a3), some (.inr (.inr (some (133, 0)))), none], [], m) _
  refine e_steps 6 (s' := (7, [some (.inr (.inr (some (0, 0)))), some (.inl a1), some (.inl a2), some (.inl a3), some (.inr (.inr (some (133, 0)))), none], [.inl a3, .inl a2, .inl a1, .inr (.inr (some (0, 0))), .inl 0, .inr (.inr (some (133, 0)))], m)) rfl ?_
  refine e_callh (hp := 15) (c := 1) (z := 6) (r := (.inl (some (.inl 1)), m1, 0, 0)) rfl rfl hX ?_
  refine e_steps 2 (s' := (18, [some (.inr (.inr (some (0, 0)))), some (.inl a1), some (.inl a2), some (.inl a3), some (.inr (.inr (some (133, 0)))), some (.inr (.inr (some (999, 0))))], [.inl 1], m1)) rfl ?_
  exact e_ret rfl rfl
-- GlassThreadsLaw.loss
set_option maxRecDepth 100000 in
theorem w_259 {d : Nat} {a1 a2 a3 a4 : Int32} {m m1 : mm_M} {v : Int32} (hX : mm_X d 5 [.inr (.inr (some (0, 0))), .inl a1, .inl a2, .inl a3, .inl a4] m (.inl (some (.inl v)), m1, 0, 0)) : mm_X (d + 1) 259 [.inr (.inr (some (0, 0))), .inl a1, .inl a2, .inl a3, .inl a4, .inr (.inr (some (133, 0)))] m (.inl (some (.inl 0)), (mm_w m1 133 0 0 v), 0, 0) := by
  show mm_E (d + 1) 259 (0, [some (.inr (.inr (some (0, 0)))), some (.inl a1), some (.inl a2), some (.inl a3), some (.inl a4), some (.inr (.inr (some (133, 0)))), none], [], m) _
  refine e_steps 7 (s' := (9, [some (.inr (.inr (some (0, 0)))), some (.inl a1), some (.inl a2), some (.inl a3), some (.inl a4), some (.inr (.inr (some (133, 0)))), none], [.inl a4, .inl a3, .inl a2, .inl a1, .inr (.inr (some (0, 0))), .inl 0, .inr (.inr (some (133, 0)))], m)) rfl ?_
  refine e_call0 (v := some (.inl v)) rfl hX ?_
  refine e_steps 1 (s' := (13, [some (.inr (.inr (some (0, 0)))), some (.inl a1), some (.inl a2), some (.inl a3), some (.inl a4), some (.inr (.inr (some (133, 0)))), none], [.inr (.inl v), .inl 0, .inr (.inr (some (133, 0)))], m1)) rfl ?_
  refine e_steps 3 (s' := (26, [some (.inr (.inr (some (0, 0)))), some (.inl a1), some (.inl a2), some (.inl a3), some (.inl a4), some (.inr (.inr (some (133, 0)))), none], [.inl 0], (mm_w m1 133 0 0 v))) rfl ?_
  exact e_ret rfl rfl
set_option maxRecDepth 100000 in
theorem w_259_1 {d : Nat} {a1 a2 a3 a4 : Int32} {m m1 : mm_M} (hX : mm_X d 5 [.inr (.inr (some (0, 0))), .inl a1, .inl a2, .inl a3, .inl a4] m (.inr 1, m1, 1, 6)) : mm_X (d + 1) 259 [.inr (.inr (some (0, 0))), .inl a1, .inl a2, .inl a3, .inl a4, .inr (.inr (some (133, 0)))] m (.inl (some (.inl 1)), m1, 1, 6) := by
  show mm_E (d + 1) 259 (0, [some (.inr (.inr (some (0, 0)))), some (.inl a1), some (.inl a2), some (.inl a3), some (.inl a4), some (.inr (.inr (some (133, 0)))), none], [], m) _
  refine e_steps 7 (s' := (9, [some (.inr (.inr (some (0, 0)))), some (.inl a1), some (.inl a2), some (.inl a3), some (.inl a4), some (.inr (.inr (some (133, 0)))), none], [.inl a4, .inl a3, .inl a2, .inl a1, .inr (.inr (some (0, 0))), .inl 0, .inr (.inr (some (133, 0)))], m)) rfl ?_
  refine e_callh (hp := 17) (c := 1) (z := 6) (r := (.inl (some (.inl 1)), m1, 0, 0)) rfl rfl hX ?_
  refine e_steps 2 (s' := (20, [some (.inr (.inr (some (0, 0)))), some (.inl a1), some (.inl a2), some (.inl a3), some (.inl a4), some (.inr (.inr (some (133, 0)))), some (.inr (.inr (some (999, 0))))], [.inl 1], m1)) rfl ?_
  exact e_ret rfl rfl
set_option maxRecDepth 100000 in
theorem w_259_0 {d : Nat} {a1 a2 a3 a4 : Int32} {m m1 : mm_M} (hX : mm_X d 5 [.inr (.inr (some (0, 0))), .inl a1, .inl a2, .inl a3, .inl a4] m (.inr 0, m1, 1, 6)) : mm_X (d + 1) 259 [.inr (.inr (some (0, 0))), .inl a1, .inl a2, .inl a3, .inl a4, .inr (.inr (some (133, 0)))] m (.inl (some (.inl 2)), m1, 1, 6) := by
  show mm_E (d + 1) 259 (0, [some (.inr (.inr (some (0, 0)))), some (.inl a1), some (.inl a2), some (.inl a3), some (.inl a4), some (.inr (.inr (some (133, 0)))), none], [], m) _
  refine e_steps 7 (s' := (9, [some (.inr (.inr (some (0, 0)))), some (.inl a1), some (.inl a2), some (.inl a3), some (.inl a4), some (.inr (.inr (some (133, 0)))), none], [.inl a4, .inl a3, .inl a2, .inl a1, .inr (.inr (some (0, 0))), .inl 0, .inr (.inr (some (133, 0)))], m)) rfl ?_
  refine e_callh (hp := 21) (c := 1) (z := 6) (r := (.inl (some (.inl 2)), m1, 0, 0)) rfl rfl hX ?_
  refine e_steps 2 (s' := (24, [some (.inr (.inr (some (0, 0)))), some (.inl a1), some (.inl a2), some (.inl a3), some (.inl a4), some (.inr (.inr (some (133, 0)))), some (.inr (.inr (some (999, 0))))], [.inl 2], m1)) rfl ?_
  exact e_ret rfl rfl
-- GlassThreadsLaw.evenings
set_option maxRecDepth 100000 in
theorem w_260 {d : Nat} {a1 : Int32} {m m1 : mm_M} {v : Int32} (hX : mm_X d 6 [.inr (.inr (some (0, 0))), .inl a1] m (.inl (some (.inl v)), m1, 0, 0)) : mm_X (d + 1) 260 [.inr (.inr (some (0, 0))), .inl a1, .inr (.inr (some (133, 0)))] m (.inl (some (.inl 0)), (mm_w m1 133 0 0 v), 0, 0) := by
  show mm_E (d + 1) 260 (0, [some (.inr (.inr (some (0, 0)))), some (.inl a1), some (.inr (.inr (some (133, 0)))), none], [], m) _
  refine e_steps 4 (s' := (4, [some (.inr (.inr (some (0, 0)))), some (.inl a1), some (.inr (.inr (some (133, 0)))), none], [.inl a1, .inr (.inr (some (0, 0))), .inl 0, .inr (.inr (some (133, 0)))], m)) rfl ?_
  refine e_call0 (v := some (.inl v)) rfl hX ?_
  refine e_steps 1 (s' := (8, [some (.inr (.inr (some (0, 0)))), some (.inl a1), some (.inr (.inr (some (133, 0)))), none], [.inr (.inl v), .inl 0, .inr (.inr (some (133, 0)))], m1)) rfl ?_
  refine e_steps 3 (s' := (16, [some (.inr (.inr (some (0, 0)))), some (.inl a1), some (.inr (.inr (some (133, 0)))), none], [.inl 0], (mm_w m1 133 0 0 v))) rfl ?_
  exact e_ret rfl rfl
set_option maxRecDepth 100000 in
theorem w_260_0 {d : Nat} {a1 : Int32} {m m1 : mm_M} (hX : mm_X d 6 [.inr (.inr (some (0, 0))), .inl a1] m (.inr 0, m1, 1, 6)) : mm_X (d + 1) 260 [.inr (.inr (some (0, 0))), .inl a1, .inr (.inr (some (133, 0)))] m (.inl (some (.inl 1)), m1, 1, 6) := by
  show mm_E (d + 1) 260 (0, [some (.inr (.inr (some (0, 0)))), some (.inl a1), some (.inr (.inr (some (133, 0)))), none], [], m) _
  refine e_steps 4 (s' := (4, [some (.inr (.inr (some (0, 0)))), some (.inl a1), some (.inr (.inr (some (133, 0)))), none], [.inl a1, .inr (.inr (some (0, 0))), .inl 0, .inr (.inr (some (133, 0)))], m)) rfl ?_
  refine e_callh (hp := 12) (c := 1) (z := 6) (r := (.inl (some (.inl 1)), m1, 0, 0)) rfl rfl hX ?_
  refine e_steps 2 (s' := (14, [some (.inr (.inr (some (0, 0)))), some (.inl a1), some (.inr (.inr (some (133, 0)))), some (.inr (.inr (some (999, 0))))], [.inl 1], m1)) rfl ?_
  exact e_ret rfl rfl
-- GlassThreadsLaw.event
set_option maxRecDepth 100000 in
theorem w_261 {d : Nat} {a1 a2 a3 a4 a5 : Int32} {m m1 : mm_M} {v : Int32} (hX : mm_X d 7 [.inr (.inr (some (0, 0))), .inl a1, .inl a2, .inl a3, .inl a4, .inl a5] m (.inl (some (.inl v)), m1, 0, 0)) : mm_X (d + 1) 261 [.inr (.inr (some (0, 0))), .inl a1, .inl a2, .inl a3, .inl a4, .inl a5, .inr (.inr (some (133, 0)))] m (.inl (some (.inl 0)), (mm_w m1 133 0 0 v), 0, 0) := by
  show mm_E (d + 1) 261 (0, [some (.inr (.inr (some (0, 0)))), some (.inl a1), some (.inl a2), some (.inl a3), some (.inl a4), some (.inl a5), some (.inr (.inr (some (133, 0)))), none], [], m) _
  refine e_steps 8 (s' := (11, [some (.inr (.inr (some (0, 0)))), some (.inl a1), some (.inl a2), some (.inl a3), some (.inl a4), some (.inl a5), some (.inr (.inr (some (133, 0)))), none], [.inl a5, .inl a4, .inl a3, .inl a2, .inl a1, .inr (.inr (some (0, 0))), .inl 0, .inr (.inr (some (133, 0)))], m)) rfl ?_
  refine e_call0 (v := some (.inl v)) rfl hX ?_
  refine e_steps 1 (s' := (15, [some (.inr (.inr (some (0, 0)))), some (.inl a1), some (.inl a2), some (.inl a3), some (.inl a4), some (.inl a5), some (.inr (.inr (some (133, 0)))), none], [.inr (.inl v), .inl 0, .inr (.inr (some (133, 0)))], m1)) rfl ?_
  refine e_steps 3 (s' := (24, [some (.inr (.inr (some (0, 0)))), some (.inl a1), some (.inl a2), some (.inl a3), some (.inl a4), some (.inl a5), some (.inr (.inr (some (133, 0)))), none], [.inl 0], (mm_w m1 133 0 0 v))) rfl ?_
  exact e_ret rfl rfl
set_option maxRecDepth 100000 in
theorem w_261_1 {d : Nat} {a1 a2 a3 a4 a5 : Int32} {m m1 : mm_M} (hX : mm_X d 7 [.inr (.inr (some (0, 0))), .inl a1, .inl a2, .inl a3, .inl a4, .inl a5] m (.inr 1, m1, 1, 6)) : mm_X (d + 1) 261 [.inr (.inr (some (0, 0))), .inl a1, .inl a2, .inl a3, .inl a4, .inl a5, .inr (.inr (some (133, 0)))] m (.inl (some (.inl 1)), m1, 1, 6) := by
  show mm_E (d + 1) 261 (0, [some (.inr (.inr (some (0, 0)))), some (.inl a1), some (.inl a2), some (.inl a3), some (.inl a4), some (.inl a5), some (.inr (.inr (some (133, 0)))), none], [], m) _
  refine e_steps 8 (s' := (11, [some (.inr (.inr (some (0, 0)))), some (.inl a1), some (.inl a2), some (.inl a3), some (.inl a4), some (.inl a5), some (.inr (.inr (some (133, 0)))), none], [.inl a5, .inl a4, .inl a3, .inl a2, .inl a1, .inr (.inr (some (0, 0))), .inl 0, .inr (.inr (some (133, 0)))], m)) rfl ?_
  refine e_callh (hp := 19) (c := 1) (z := 6) (r := (.inl (some (.inl 1)), m1, 0, 0)) rfl rfl hX ?_
  refine e_steps 2 (s' := (22, [some (.inr (.inr (some (0, 0)))), some (.inl a1), some (.inl a2), some (.inl a3), some (.inl a4), some (.inl a5), some (.inr (.inr (some (133, 0)))), some (.inr (.inr (some (999, 0))))], [.inl 1], m1)) rfl ?_
  exact e_ret rfl rfl
-- GlassThreadsLaw.back
set_option maxRecDepth 100000 in
theorem w_262 {d : Nat} {a1 : Int32} {m m1 : mm_M} {v : Int32} (hX : mm_X d 8 [.inr (.inr (some (0, 0))), .inl a1] m (.inl (some (.inl v)), m1, 0, 0)) : mm_X (d + 1) 262 [.inr (.inr (some (0, 0))), .inl a1, .inr (.inr (some (133, 0)))] m (.inl (some (.inl 0)), (mm_w m1 133 0 0 (mm_bz v)), 0, 0) := by
  show mm_E (d + 1) 262 (0, [some (.inr (.inr (some (0, 0)))), some (.inl a1), some (.inr (.inr (some (133, 0)))), none], [], m) _
  refine e_steps 4 (s' := (4, [some (.inr (.inr (some (0, 0)))), some (.inl a1), some (.inr (.inr (some (133, 0)))), none], [.inl a1, .inr (.inr (some (0, 0))), .inl 0, .inr (.inr (some (133, 0)))], m)) rfl ?_
  refine e_call0 (v := some (.inl v)) rfl hX ?_
  refine q_if (c := v = 0) (s1 := (14, [some (.inr (.inr (some (0, 0)))), some (.inl a1), some (.inr (.inr (some (133, 0)))), none], [.inl 0, .inr (.inr (some (133, 0)))], m1)) (s2 := (10, [some (.inr (.inr (some (0, 0)))), some (.inl a1), some (.inr (.inr (some (133, 0)))), none], [.inl 0, .inr (.inr (some (133, 0)))], m1)) rfl (fun hc => ?_) (fun hc => ?_)
  · rw [mm_bz0 hc]
    refine e_steps 1 (s' := (15, [some (.inr (.inr (some (0, 0)))), some (.inl a1), some (.inr (.inr (some (133, 0)))), none], [.inr (.inl 0), .inl 0, .inr (.inr (some (133, 0)))], m1)) rfl ?_
    refine e_mask (L' := [none, none, none, none]) rfl ?_
    refine e_steps 3 (s' := (23, [none, none, none, none], [.inl 0], (mm_w m1 133 0 0 0))) rfl ?_
    exact e_ret rfl rfl
  · rw [mm_bz1 hc]
    refine e_steps 2 (s' := (15, [some (.inr (.inr (some (0, 0)))), some (.inl a1), some (.inr (.inr (some (133, 0)))), none], [.inr (.inl 1), .inl 0, .inr (.inr (some (133, 0)))], m1)) rfl ?_
    refine e_mask (L' := [none, none, none, none]) rfl ?_
    refine e_steps 3 (s' := (23, [none, none, none, none], [.inl 0], (mm_w m1 133 0 0 1))) rfl ?_
    exact e_ret rfl rfl
set_option maxRecDepth 100000 in
theorem w_262_1 {d : Nat} {a1 : Int32} {m m1 : mm_M} (hX : mm_X d 8 [.inr (.inr (some (0, 0))), .inl a1] m (.inr 1, m1, 1, 6)) : mm_X (d + 1) 262 [.inr (.inr (some (0, 0))), .inl a1, .inr (.inr (some (133, 0)))] m (.inl (some (.inl 1)), m1, 1, 6) := by
  show mm_E (d + 1) 262 (0, [some (.inr (.inr (some (0, 0)))), some (.inl a1), some (.inr (.inr (some (133, 0)))), none], [], m) _
  refine e_steps 4 (s' := (4, [some (.inr (.inr (some (0, 0)))), some (.inl a1), some (.inr (.inr (some (133, 0)))), none], [.inl a1, .inr (.inr (some (0, 0))), .inl 0, .inr (.inr (some (133, 0)))], m)) rfl ?_
  refine e_callh (hp := 19) (c := 1) (z := 6) (r := (.inl (some (.inl 1)), m1, 0, 0)) rfl rfl hX ?_
  refine e_steps 2 (s' := (21, [some (.inr (.inr (some (0, 0)))), some (.inl a1), some (.inr (.inr (some (133, 0)))), some (.inr (.inr (some (999, 0))))], [.inl 1], m1)) rfl ?_
  exact e_ret rfl rfl
-- GlassThreadsLaw.level
set_option maxRecDepth 100000 in
theorem w_263 {d : Nat} {a1 a2 a3 a4 a5 a6 a7 : Int32} {m m1 : mm_M} {v : Int32} (hX : mm_X d 9 [.inr (.inr (some (0, 0))), .inl a1, .inl a2, .inl a3, .inl a4, .inl a5, .inl a6, .inl a7] m (.inl (some (.inl v)), m1, 0, 0)) : mm_X (d + 1) 263 [.inr (.inr (some (0, 0))), .inl a1, .inl a2, .inl a3, .inl a4, .inl a5, .inl a6, .inl a7, .inr (.inr (some (133, 0)))] m (.inl (some (.inl 0)), (mm_w m1 133 0 0 v), 0, 0) := by
  show mm_E (d + 1) 263 (0, [some (.inr (.inr (some (0, 0)))), some (.inl a1), some (.inl a2), some (.inl a3), some (.inl a4), some (.inl a5), some (.inl a6), some (.inl a7), some (.inr (.inr (some (133, 0)))), none], [], m) _
  refine e_steps 10 (s' := (15, [some (.inr (.inr (some (0, 0)))), some (.inl a1), some (.inl a2), some (.inl a3), some (.inl a4), some (.inl a5), some (.inl a6), some (.inl a7), some (.inr (.inr (some (133, 0)))), none], [.inl a7, .inl a6, .inl a5, .inl a4, .inl a3, .inl a2, .inl a1, .inr (.inr (some (0, 0))), .inl 0, .inr (.inr (some (133, 0)))], m)) rfl ?_
  refine e_call0 (v := some (.inl v)) rfl hX ?_
  refine e_steps 1 (s' := (19, [some (.inr (.inr (some (0, 0)))), some (.inl a1), some (.inl a2), some (.inl a3), some (.inl a4), some (.inl a5), some (.inl a6), some (.inl a7), some (.inr (.inr (some (133, 0)))), none], [.inr (.inl v), .inl 0, .inr (.inr (some (133, 0)))], m1)) rfl ?_
  refine e_steps 3 (s' := (32, [some (.inr (.inr (some (0, 0)))), some (.inl a1), some (.inl a2), some (.inl a3), some (.inl a4), some (.inl a5), some (.inl a6), some (.inl a7), some (.inr (.inr (some (133, 0)))), none], [.inl 0], (mm_w m1 133 0 0 v))) rfl ?_
  exact e_ret rfl rfl
set_option maxRecDepth 100000 in
theorem w_263_1 {d : Nat} {a1 a2 a3 a4 a5 a6 a7 : Int32} {m m1 : mm_M} (hX : mm_X d 9 [.inr (.inr (some (0, 0))), .inl a1, .inl a2, .inl a3, .inl a4, .inl a5, .inl a6, .inl a7] m (.inr 1, m1, 1, 6)) : mm_X (d + 1) 263 [.inr (.inr (some (0, 0))), .inl a1, .inl a2, .inl a3, .inl a4, .inl a5, .inl a6, .inl a7, .inr (.inr (some (133, 0)))] m (.inl (some (.inl 1)), m1, 1, 6) := by
  show mm_E (d + 1) 263 (0, [some (.inr (.inr (some (0, 0)))), some (.inl a1), some (.inl a2), some (.inl a3), some (.inl a4), some (.inl a5), some (.inl a6), some (.inl a7), some (.inr (.inr (some (133, 0)))), none], [], m) _
  refine e_steps 10 (s' := (15, [some (.inr (.inr (some (0, 0)))), some (.inl a1), some (.inl a2), some (.inl a3), some (.inl a4), some (.inl a5), some (.inl a6), some (.inl a7), some (.inr (.inr (some (133, 0)))), none], [.inl a7, .inl a6, .inl a5, .inl a4, .inl a3, .inl a2, .inl a1, .inr (.inr (some (0, 0))), .inl 0, .inr (.inr (some (133, 0)))], m)) rfl ?_
  refine e_callh (hp := 23) (c := 1) (z := 6) (r := (.inl (some (.inl 1)), m1, 0, 0)) rfl rfl hX ?_
  refine e_steps 2 (s' := (26, [some (.inr (.inr (some (0, 0)))), some (.inl a1), some (.inl a2), some (.inl a3), some (.inl a4), some (.inl a5), some (.inl a6), some (.inl a7), some (.inr (.inr (some (133, 0)))), some (.inr (.inr (some (999, 0))))], [.inl 1], m1)) rfl ?_
  exact e_ret rfl rfl
set_option maxRecDepth 100000 in
theorem w_263_0 {d : Nat} {a1 a2 a3 a4 a5 a6 a7 : Int32} {m m1 : mm_M} (hX : mm_X d 9 [.inr (.inr (some (0, 0))), .inl a1, .inl a2, .inl a3, .inl a4, .inl a5, .inl a6, .inl a7] m (.inr 0, m1, 1, 6)) : mm_X (d + 1) 263 [.inr (.inr (some (0, 0))), .inl a1, .inl a2, .inl a3, .inl a4, .inl a5, .inl a6, .inl a7, .inr (.inr (some (133, 0)))] m (.inl (some (.inl 2)), m1, 1, 6) := by
  show mm_E (d + 1) 263 (0, [some (.inr (.inr (some (0, 0)))), some (.inl a1), some (.inl a2), some (.inl a3), some (.inl a4), some (.inl a5), some (.inl a6), some (.inl a7), some (.inr (.inr (some (133, 0)))), none], [], m) _
  refine e_steps 10 (s' := (15, [some (.inr (.inr (some (0, 0)))), some (.inl a1), some (.inl a2), some (.inl a3), some (.inl a4), some (.inl a5), some (.inl a6), some (.inl a7), some (.inr (.inr (some (133, 0)))), none], [.inl a7, .inl a6, .inl a5, .inl a4, .inl a3, .inl a2, .inl a1, .inr (.inr (some (0, 0))), .inl 0, .inr (.inr (some (133, 0)))], m)) rfl ?_
  refine e_callh (hp := 27) (c := 1) (z := 6) (r := (.inl (some (.inl 2)), m1, 0, 0)) rfl rfl hX ?_
  refine e_steps 2 (s' := (30, [some (.inr (.inr (some (0, 0)))), some (.inl a1), some (.inl a2), some (.inl a3), some (.inl a4), some (.inl a5), some (.inl a6), some (.inl a7), some (.inr (.inr (some (133, 0)))), some (.inr (.inr (some (999, 0))))], [.inl 2], m1)) rfl ?_
  exact e_ret rfl rfl
-- GlassThreadsLaw.margin
set_option maxRecDepth 100000 in
theorem w_264 {d : Nat} {a1 a2 a3 a4 a5 a6 : Int32} {m m1 : mm_M} {v : Int32} (hX : mm_X d 10 [.inr (.inr (some (0, 0))), .inl a1, .inl a2, .inl a3, .inl a4, .inl a5, .inl a6] m (.inl (some (.inl v)), m1, 0, 0)) : mm_X (d + 1) 264 [.inr (.inr (some (0, 0))), .inl a1, .inl a2, .inl a3, .inl a4, .inl a5, .inl a6, .inr (.inr (some (133, 0)))] m (.inl (some (.inl 0)), (mm_w m1 133 0 0 v), 0, 0) := by
  show mm_E (d + 1) 264 (0, [some (.inr (.inr (some (0, 0)))), some (.inl a1), some (.inl a2), some (.inl a3), some (.inl a4), some (.inl a5), some (.inl a6), some (.inr (.inr (some (133, 0)))), none], [], m) _
  refine e_steps 9 (s' := (13, [some (.inr (.inr (some (0, 0)))), some (.inl a1), some (.inl a2), some (.inl a3), some (.inl a4), some (.inl a5), some (.inl a6), some (.inr (.inr (some (133, 0)))), none], [.inl a6, .inl a5, .inl a4, .inl a3, .inl a2, .inl a1, .inr (.inr (some (0, 0))), .inl 0, .inr (.inr (some (133, 0)))], m)) rfl ?_
  refine e_call0 (v := some (.inl v)) rfl hX ?_
  refine e_steps 1 (s' := (17, [some (.inr (.inr (some (0, 0)))), some (.inl a1), some (.inl a2), some (.inl a3), some (.inl a4), some (.inl a5), some (.inl a6), some (.inr (.inr (some (133, 0)))), none], [.inr (.inl v), .inl 0, .inr (.inr (some (133, 0)))], m1)) rfl ?_
  refine e_steps 3 (s' := (30, [some (.inr (.inr (some (0, 0)))), some (.inl a1), some (.inl a2), some (.inl a3), some (.inl a4), some (.inl a5), some (.inl a6), some (.inr (.inr (some (133, 0)))), none], [.inl 0], (mm_w m1 133 0 0 v))) rfl ?_
  exact e_ret rfl rfl
set_option maxRecDepth 100000 in
theorem w_264_1 {d : Nat} {a1 a2 a3 a4 a5 a6 : Int32} {m m1 : mm_M} (hX : mm_X d 10 [.inr (.inr (some (0, 0))), .inl a1, .inl a2, .inl a3, .inl a4, .inl a5, .inl a6] m (.inr 1, m1, 1, 6)) : mm_X (d + 1) 264 [.inr (.inr (some (0, 0))), .inl a1, .inl a2, .inl a3, .inl a4, .inl a5, .inl a6, .inr (.inr (some (133, 0)))] m (.inl (some (.inl 1)), m1, 1, 6) := by
  show mm_E (d + 1) 264 (0, [some (.inr (.inr (some (0, 0)))), some (.inl a1), some (.inl a2), some (.inl a3), some (.inl a4), some (.inl a5), some (.inl a6), some (.inr (.inr (some (133, 0)))), none], [], m) _
  refine e_steps 9 (s' := (13, [some (.inr (.inr (some (0, 0)))), some (.inl a1), some (.inl a2), some (.inl a3), some (.inl a4), some (.inl a5), some (.inl a6), some (.inr (.inr (some (133, 0)))), none], [.inl a6, .inl a5, .inl a4, .inl a3, .inl a2, .inl a1, .inr (.inr (some (0, 0))), .inl 0, .inr (.inr (some (133, 0)))], m)) rfl ?_
  refine e_callh (hp := 21) (c := 1) (z := 6) (r := (.inl (some (.inl 1)), m1, 0, 0)) rfl rfl hX ?_
  refine e_steps 2 (s' := (24, [some (.inr (.inr (some (0, 0)))), some (.inl a1), some (.inl a2), some (.inl a3), some (.inl a4), some (.inl a5), some (.inl a6), some (.inr (.inr (some (133, 0)))), some (.inr (.inr (some (999, 0))))], [.inl 1], m1)) rfl ?_
  exact e_ret rfl rfl
set_option maxRecDepth 100000 in
theorem w_264_0 {d : Nat} {a1 a2 a3 a4 a5 a6 : Int32} {m m1 : mm_M} (hX : mm_X d 10 [.inr (.inr (some (0, 0))), .inl a1, .inl a2, .inl a3, .inl a4, .inl a5, .inl a6] m (.inr 0, m1, 1, 6)) : mm_X (d + 1) 264 [.inr (.inr (some (0, 0))), .inl a1, .inl a2, .inl a3, .inl a4, .inl a5, .inl a6, .inr (.inr (some (133, 0)))] m (.inl (some (.inl 2)), m1, 1, 6) := by
  show mm_E (d + 1) 264 (0, [some (.inr (.inr (some (0, 0)))), some (.inl a1), some (.inl a2), some (.inl a3), some (.inl a4), some (.inl a5), some (.inl a6), some (.inr (.inr (some (133, 0)))), none], [], m) _
  refine e_steps 9 (s' := (13, [some (.inr (.inr (some (0, 0)))), some (.inl a1), some (.inl a2), some (.inl a3), some (.inl a4), some (.inl a5), some (.inl a6), some (.inr (.inr (some (133, 0)))), none], [.inl a6, .inl a5, .inl a4, .inl a3, .inl a2, .inl a1, .inr (.inr (some (0, 0))), .inl 0, .inr (.inr (some (133, 0)))], m)) rfl ?_
  refine e_callh (hp := 25) (c := 1) (z := 6) (r := (.inl (some (.inl 2)), m1, 0, 0)) rfl rfl hX ?_
  refine e_steps 2 (s' := (28, [some (.inr (.inr (some (0, 0)))), some (.inl a1), some (.inl a2), some (.inl a3), some (.inl a4), some (.inl a5), some (.inl a6), some (.inr (.inr (some (133, 0)))), some (.inr (.inr (some (999, 0))))], [.inl 2], m1)) rfl ?_
  exact e_ret rfl rfl
-- GlassThreadsLaw.tired
set_option maxRecDepth 100000 in
theorem w_265 {d : Nat} {a1 a2 a3 a4 : Int32} {m m1 : mm_M} {v : Int32} (hX : mm_X d 11 [.inr (.inr (some (0, 0))), .inl a1, .inl a2, .inl a3, .inl a4] m (.inl (some (.inl v)), m1, 0, 0)) : mm_X (d + 1) 265 [.inr (.inr (some (0, 0))), .inl a1, .inl a2, .inl a3, .inl a4, .inr (.inr (some (133, 0)))] m (.inl (some (.inl 0)), (mm_w m1 133 0 0 v), 0, 0) := by
  show mm_E (d + 1) 265 (0, [some (.inr (.inr (some (0, 0)))), some (.inl a1), some (.inl a2), some (.inl a3), some (.inl a4), some (.inr (.inr (some (133, 0)))), none], [], m) _
  refine e_steps 7 (s' := (9, [some (.inr (.inr (some (0, 0)))), some (.inl a1), some (.inl a2), some (.inl a3), some (.inl a4), some (.inr (.inr (some (133, 0)))), none], [.inl a4, .inl a3, .inl a2, .inl a1, .inr (.inr (some (0, 0))), .inl 0, .inr (.inr (some (133, 0)))], m)) rfl ?_
  refine e_call0 (v := some (.inl v)) rfl hX ?_
  refine e_steps 1 (s' := (13, [some (.inr (.inr (some (0, 0)))), some (.inl a1), some (.inl a2), some (.inl a3), some (.inl a4), some (.inr (.inr (some (133, 0)))), none], [.inr (.inl v), .inl 0, .inr (.inr (some (133, 0)))], m1)) rfl ?_
  refine e_steps 3 (s' := (26, [some (.inr (.inr (some (0, 0)))), some (.inl a1), some (.inl a2), some (.inl a3), some (.inl a4), some (.inr (.inr (some (133, 0)))), none], [.inl 0], (mm_w m1 133 0 0 v))) rfl ?_
  exact e_ret rfl rfl
set_option maxRecDepth 100000 in
theorem w_265_1 {d : Nat} {a1 a2 a3 a4 : Int32} {m m1 : mm_M} (hX : mm_X d 11 [.inr (.inr (some (0, 0))), .inl a1, .inl a2, .inl a3, .inl a4] m (.inr 1, m1, 1, 6)) : mm_X (d + 1) 265 [.inr (.inr (some (0, 0))), .inl a1, .inl a2, .inl a3, .inl a4, .inr (.inr (some (133, 0)))] m (.inl (some (.inl 1)), m1, 1, 6) := by
  show mm_E (d + 1) 265 (0, [some (.inr (.inr (some (0, 0)))), some (.inl a1), some (.inl a2), some (.inl a3), some (.inl a4), some (.inr (.inr (some (133, 0)))), none], [], m) _
  refine e_steps 7 (s' := (9, [some (.inr (.inr (some (0, 0)))), some (.inl a1), some (.inl a2), some (.inl a3), some (.inl a4), some (.inr (.inr (some (133, 0)))), none], [.inl a4, .inl a3, .inl a2, .inl a1, .inr (.inr (some (0, 0))), .inl 0, .inr (.inr (some (133, 0)))], m)) rfl ?_
  refine e_callh (hp := 17) (c := 1) (z := 6) (r := (.inl (some (.inl 1)), m1, 0, 0)) rfl rfl hX ?_
  refine e_steps 2 (s' := (20, [some (.inr (.inr (some (0, 0)))), some (.inl a1), some (.inl a2), some (.inl a3), some (.inl a4), some (.inr (.inr (some (133, 0)))), some (.inr (.inr (some (999, 0))))], [.inl 1], m1)) rfl ?_
  exact e_ret rfl rfl
set_option maxRecDepth 100000 in
theorem w_265_0 {d : Nat} {a1 a2 a3 a4 : Int32} {m m1 : mm_M} (hX : mm_X d 11 [.inr (.inr (some (0, 0))), .inl a1, .inl a2, .inl a3, .inl a4] m (.inr 0, m1, 1, 6)) : mm_X (d + 1) 265 [.inr (.inr (some (0, 0))), .inl a1, .inl a2, .inl a3, .inl a4, .inr (.inr (some (133, 0)))] m (.inl (some (.inl 2)), m1, 1, 6) := by
  show mm_E (d + 1) 265 (0, [some (.inr (.inr (some (0, 0)))), some (.inl a1), some (.inl a2), some (.inl a3), some (.inl a4), some (.inr (.inr (some (133, 0)))), none], [], m) _
  refine e_steps 7 (s' := (9, [some (.inr (.inr (some (0, 0)))), some (.inl a1), some (.inl a2), some (.inl a3), some (.inl a4), some (.inr (.inr (some (133, 0)))), none], [.inl a4, .inl a3, .inl a2, .inl a1, .inr (.inr (some (0, 0))), .inl 0, .inr (.inr (some (133, 0)))], m)) rfl ?_
  refine e_callh (hp := 21) (c := 1) (z := 6) (r := (.inl (some (.inl 2)), m1, 0, 0)) rfl rfl hX ?_
  refine e_steps 2 (s' := (24, [some (.inr (.inr (some (0, 0)))), some (.inl a1), some (.inl a2), some (.inl a3), some (.inl a4), some (.inr (.inr (some (133, 0)))), some (.inr (.inr (some (999, 0))))], [.inl 2], m1)) rfl ?_
  exact e_ret rfl rfl
-- GlassThreadsLaw.dead
set_option maxRecDepth 100000 in
theorem w_266 {d : Nat} {a1 : Int32} {m m1 : mm_M} {v : Int32} (hX : mm_X d 12 [.inr (.inr (some (0, 0))), .inl a1] m (.inl (some (.inl v)), m1, 0, 0)) : mm_X (d + 1) 266 [.inr (.inr (some (0, 0))), .inl a1, .inr (.inr (some (133, 0)))] m (.inl (some (.inl 0)), (mm_w m1 133 0 0 v), 0, 0) := by
  show mm_E (d + 1) 266 (0, [some (.inr (.inr (some (0, 0)))), some (.inl a1), some (.inr (.inr (some (133, 0)))), none], [], m) _
  refine e_steps 4 (s' := (4, [some (.inr (.inr (some (0, 0)))), some (.inl a1), some (.inr (.inr (some (133, 0)))), none], [.inl a1, .inr (.inr (some (0, 0))), .inl 0, .inr (.inr (some (133, 0)))], m)) rfl ?_
  refine e_call0 (v := some (.inl v)) rfl hX ?_
  refine e_steps 1 (s' := (8, [some (.inr (.inr (some (0, 0)))), some (.inl a1), some (.inr (.inr (some (133, 0)))), none], [.inr (.inl v), .inl 0, .inr (.inr (some (133, 0)))], m1)) rfl ?_
  refine e_steps 3 (s' := (16, [some (.inr (.inr (some (0, 0)))), some (.inl a1), some (.inr (.inr (some (133, 0)))), none], [.inl 0], (mm_w m1 133 0 0 v))) rfl ?_
  exact e_ret rfl rfl
set_option maxRecDepth 100000 in
theorem w_266_0 {d : Nat} {a1 : Int32} {m m1 : mm_M} (hX : mm_X d 12 [.inr (.inr (some (0, 0))), .inl a1] m (.inr 0, m1, 1, 6)) : mm_X (d + 1) 266 [.inr (.inr (some (0, 0))), .inl a1, .inr (.inr (some (133, 0)))] m (.inl (some (.inl 1)), m1, 1, 6) := by
  show mm_E (d + 1) 266 (0, [some (.inr (.inr (some (0, 0)))), some (.inl a1), some (.inr (.inr (some (133, 0)))), none], [], m) _
  refine e_steps 4 (s' := (4, [some (.inr (.inr (some (0, 0)))), some (.inl a1), some (.inr (.inr (some (133, 0)))), none], [.inl a1, .inr (.inr (some (0, 0))), .inl 0, .inr (.inr (some (133, 0)))], m)) rfl ?_
  refine e_callh (hp := 12) (c := 1) (z := 6) (r := (.inl (some (.inl 1)), m1, 0, 0)) rfl rfl hX ?_
  refine e_steps 2 (s' := (14, [some (.inr (.inr (some (0, 0)))), some (.inl a1), some (.inr (.inr (some (133, 0)))), some (.inr (.inr (some (999, 0))))], [.inl 1], m1)) rfl ?_
  exact e_ret rfl rfl
-- GlassThreadsLaw.echo
set_option maxRecDepth 100000 in
theorem w_267 {d : Nat} {a1 a2 a3 a4 a5 : Int32} {m m1 : mm_M} {v : Int32} (hX : mm_X d 13 [.inr (.inr (some (0, 0))), .inl a1, .inl a2, .inl a3, .inl a4, .inl a5] m (.inl (some (.inl v)), m1, 0, 0)) : mm_X (d + 1) 267 [.inr (.inr (some (0, 0))), .inl a1, .inl a2, .inl a3, .inl a4, .inl a5, .inr (.inr (some (133, 0)))] m (.inl (some (.inl 0)), (mm_w m1 133 0 0 v), 0, 0) := by
  show mm_E (d + 1) 267 (0, [some (.inr (.inr (some (0, 0)))), some (.inl a1), some (.inl a2), some (.inl a3), some (.inl a4), some (.inl a5), some (.inr (.inr (some (133, 0)))), none], [], m) _
  refine e_steps 8 (s' := (11, [some (.inr (.inr (some (0, 0)))), some (.inl a1), some (.inl a2), some (.inl a3), some (.inl a4), some (.inl a5), some (.inr (.inr (some (133, 0)))), none], [.inl a5, .inl a4, .inl a3, .inl a2, .inl a1, .inr (.inr (some (0, 0))), .inl 0, .inr (.inr (some (133, 0)))], m)) rfl ?_
  refine e_call0 (v := some (.inl v)) rfl hX ?_
  refine e_steps 1 (s' := (15, [some (.inr (.inr (some (0, 0)))), some (.inl a1), some (.inl a2), some (.inl a3), some (.inl a4), some (.inl a5), some (.inr (.inr (some (133, 0)))), none], [.inr (.inl v), .inl 0, .inr (.inr (some (133, 0)))], m1)) rfl ?_
  refine e_steps 3 (s' := (28, [some (.inr (.inr (some (0, 0)))), some (.inl a1), some (.inl a2), some (.inl a3), some (.inl a4), some (.inl a5), some (.inr (.inr (some (133, 0)))), none], [.inl 0], (mm_w m1 133 0 0 v))) rfl ?_
  exact e_ret rfl rfl
set_option maxRecDepth 100000 in
theorem w_267_1 {d : Nat} {a1 a2 a3 a4 a5 : Int32} {m m1 : mm_M} (hX : mm_X d 13 [.inr (.inr (some (0, 0))), .inl a1, .inl a2, .inl a3, .inl a4, .inl a5] m (.inr 1, m1, 1, 6)) : mm_X (d + 1) 267 [.inr (.inr (some (0, 0))), .inl a1, .inl a2, .inl a3, .inl a4, .inl a5, .inr (.inr (some (133, 0)))] m (.inl (some (.inl 1)), m1, 1, 6) := by
  show mm_E (d + 1) 267 (0, [some (.inr (.inr (some (0, 0)))), some (.inl a1), some (.inl a2), some (.inl a3), some (.inl a4), some (.inl a5), some (.inr (.inr (some (133, 0)))), none], [], m) _
  refine e_steps 8 (s' := (11, [some (.inr (.inr (some (0, 0)))), some (.inl a1), some (.inl a2), some (.inl a3), some (.inl a4), some (.inl a5), some (.inr (.inr (some (133, 0)))), none], [.inl a5, .inl a4, .inl a3, .inl a2, .inl a1, .inr (.inr (some (0, 0))), .inl 0, .inr (.inr (some (133, 0)))], m)) rfl ?_
  refine e_callh (hp := 19) (c := 1) (z := 6) (r := (.inl (some (.inl 1)), m1, 0, 0)) rfl rfl hX ?_
  refine e_steps 2 (s' := (22, [some (.inr (.inr (some (0, 0)))), some (.inl a1), some (.inl a2), some (.inl a3), some (.inl a4), some (.inl a5), some (.inr (.inr (some (133, 0)))), some (.inr (.inr (some (999, 0))))], [.inl 1], m1)) rfl ?_
  exact e_ret rfl rfl
set_option maxRecDepth 100000 in
theorem w_267_0 {d : Nat} {a1 a2 a3 a4 a5 : Int32} {m m1 : mm_M} (hX : mm_X d 13 [.inr (.inr (some (0, 0))), .inl a1, .inl a2, .inl a3, .inl a4, .inl a5] m (.inr 0, m1, 1, 6)) : mm_X (d + 1) 267 [.inr (.inr (some (0, 0))), .inl a1, .inl a2, .inl a3, .inl a4, .inl a5, .inr (.inr (some (133, 0)))] m (.inl (some (.inl 2)), m1, 1, 6) := by
  show mm_E (d + 1) 267 (0, [some (.inr (.inr (some (0, 0)))), some (.inl a1), some (.inl a2), some (.inl a3), some (.inl a4), some (.inl a5), some (.inr (.inr (some (133, 0)))), none], [], m) _
  refine e_steps 8 (s' := (11, [some (.inr (.inr (some (0, 0)))), some (.inl a1), some (.inl a2), some (.inl a3), some (.inl a4), some (.inl a5), some (.inr (.inr (some (133, 0)))), none], [.inl a5, .inl a4, .inl a3, .inl a2, .inl a1, .inr (.inr (some (0, 0))), .inl 0, .inr (.inr (some (133, 0)))], m)) rfl ?_
  refine e_callh (hp := 23) (c := 1) (z := 6) (r := (.inl (some (.inl 2)), m1, 0, 0)) rfl rfl hX ?_
  refine e_steps 2 (s' := (26, [some (.inr (.inr (some (0, 0)))), some (.inl a1), some (.inl a2), some (.inl a3), some (.inl a4), some (.inl a5), some (.inr (.inr (some (133, 0)))), some (.inr (.inr (some (999, 0))))], [.inl 2], m1)) rfl ?_
  exact e_ret rfl rfl
-- GlassThreadsLaw.echoed
set_option maxRecDepth 100000 in
theorem w_268 {d : Nat} {a1 a2 : Int32} {m m1 : mm_M} {v : Int32} (hX : mm_X d 14 [.inr (.inr (some (0, 0))), .inl a1, .inl a2] m (.inl (some (.inl v)), m1, 0, 0)) : mm_X (d + 1) 268 [.inr (.inr (some (0, 0))), .inl a1, .inl a2, .inr (.inr (some (133, 0)))] m (.inl (some (.inl 0)), (mm_w m1 133 0 0 v), 0, 0) := by
  show mm_E (d + 1) 268 (0, [some (.inr (.inr (some (0, 0)))), some (.inl a1), some (.inl a2), some (.inr (.inr (some (133, 0)))), none], [], m) _
  refine e_steps 5 (s' := (5, [some (.inr (.inr (some (0, 0)))), some (.inl a1), some (.inl a2), some (.inr (.inr (some (133, 0)))), none], [.inl a2, .inl a1, .inr (.inr (some (0, 0))), .inl 0, .inr (.inr (some (133, 0)))], m)) rfl ?_
  refine e_call0 (v := some (.inl v)) rfl hX ?_
  refine e_steps 1 (s' := (9, [some (.inr (.inr (some (0, 0)))), some (.inl a1), some (.inl a2), some (.inr (.inr (some (133, 0)))), none], [.inr (.inl v), .inl 0, .inr (.inr (some (133, 0)))], m1)) rfl ?_
  refine e_steps 3 (s' := (18, [some (.inr (.inr (some (0, 0)))), some (.inl a1), some (.inl a2), some (.inr (.inr (some (133, 0)))), none], [.inl 0], (mm_w m1 133 0 0 v))) rfl ?_
  exact e_ret rfl rfl
set_option maxRecDepth 100000 in
theorem w_268_1 {d : Nat} {a1 a2 : Int32} {m m1 : mm_M} (hX : mm_X d 14 [.inr (.inr (some (0, 0))), .inl a1, .inl a2] m (.inr 1, m1, 1, 6)) : mm_X (d + 1) 268 [.inr (.inr (some (0, 0))), .inl a1, .inl a2, .inr (.inr (some (133, 0)))] m (.inl (some (.inl 1)), m1, 1, 6) := by
  show mm_E (d + 1) 268 (0, [some (.inr (.inr (some (0, 0)))), some (.inl a1), some (.inl a2), some (.inr (.inr (some (133, 0)))), none], [], m) _
  refine e_steps 5 (s' := (5, [some (.inr (.inr (some (0, 0)))), some (.inl a1), some (.inl a2), some (.inr (.inr (some (133, 0)))), none], [.inl a2, .inl a1, .inr (.inr (some (0, 0))), .inl 0, .inr (.inr (some (133, 0)))], m)) rfl ?_
  refine e_callh (hp := 13) (c := 1) (z := 6) (r := (.inl (some (.inl 1)), m1, 0, 0)) rfl rfl hX ?_
  refine e_steps 2 (s' := (16, [some (.inr (.inr (some (0, 0)))), some (.inl a1), some (.inl a2), some (.inr (.inr (some (133, 0)))), some (.inr (.inr (some (999, 0))))], [.inl 1], m1)) rfl ?_
  exact e_ret rfl rfl
-- GlassThreadsLaw.look
set_option maxRecDepth 100000 in
theorem w_269 {d : Nat} {a1 : Int32} {m m1 : mm_M} (hX : mm_X d 15 [.inr (.inr (some (0, 0))), .inl a1] m (.inl (none), m1, 0, 0)) : mm_X (d + 1) 269 [.inr (.inr (some (0, 0))), .inl a1] m (.inl (some (.inl 0)), m1, 0, 0) := by
  show mm_E (d + 1) 269 (0, [some (.inr (.inr (some (0, 0)))), some (.inl a1), none], [], m) _
  refine e_steps 2 (s' := (2, [some (.inr (.inr (some (0, 0)))), some (.inl a1), none], [.inl a1, .inr (.inr (some (0, 0)))], m)) rfl ?_
  refine e_call0 (v := none) rfl hX ?_
  refine e_steps 2 (s' := (12, [some (.inr (.inr (some (0, 0)))), some (.inl a1), none], [.inl 0], m1)) rfl ?_
  exact e_ret rfl rfl
set_option maxRecDepth 100000 in
theorem w_269_1 {d : Nat} {a1 : Int32} {m m1 : mm_M} (hX : mm_X d 15 [.inr (.inr (some (0, 0))), .inl a1] m (.inr 1, m1, 1, 6)) : mm_X (d + 1) 269 [.inr (.inr (some (0, 0))), .inl a1] m (.inl (some (.inl 1)), m1, 1, 6) := by
  show mm_E (d + 1) 269 (0, [some (.inr (.inr (some (0, 0)))), some (.inl a1), none], [], m) _
  refine e_steps 2 (s' := (2, [some (.inr (.inr (some (0, 0)))), some (.inl a1), none], [.inl a1, .inr (.inr (some (0, 0)))], m)) rfl ?_
  refine e_callh (hp := 8) (c := 1) (z := 6) (r := (.inl (some (.inl 1)), m1, 0, 0)) rfl rfl hX ?_
  refine e_steps 2 (s' := (10, [some (.inr (.inr (some (0, 0)))), some (.inl a1), some (.inr (.inr (some (999, 0))))], [.inl 1], m1)) rfl ?_
  exact e_ret rfl rfl
-- GlassThreadsLaw.suspect
set_option maxRecDepth 100000 in
theorem w_270 {d : Nat} {a1 a2 : Int32} {m m1 : mm_M} {v : Int32} (hX : mm_X d 16 [.inr (.inr (some (0, 0))), .inl a1, .inl a2] m (.inl (some (.inl v)), m1, 0, 0)) : mm_X (d + 1) 270 [.inr (.inr (some (0, 0))), .inl a1, .inl a2, .inr (.inr (some (133, 0)))] m (.inl (some (.inl 0)), (mm_w m1 133 0 0 v), 0, 0) := by
  show mm_E (d + 1) 270 (0, [some (.inr (.inr (some (0, 0)))), some (.inl a1), some (.inl a2), some (.inr (.inr (some (133, 0)))), none], [], m) _
  refine e_steps 5 (s' := (5, [some (.inr (.inr (some (0, 0)))), some (.inl a1), some (.inl a2), some (.inr (.inr (some (133, 0)))), none], [.inl a2, .inl a1, .inr (.inr (some (0, 0))), .inl 0, .inr (.inr (some (133, 0)))], m)) rfl ?_
  refine e_call0 (v := some (.inl v)) rfl hX ?_
  refine e_steps 1 (s' := (9, [some (.inr (.inr (some (0, 0)))), some (.inl a1), some (.inl a2), some (.inr (.inr (some (133, 0)))), none], [.inr (.inl v), .inl 0, .inr (.inr (some (133, 0)))], m1)) rfl ?_
  refine e_steps 3 (s' := (18, [some (.inr (.inr (some (0, 0)))), some (.inl a1), some (.inl a2), some (.inr (.inr (some (133, 0)))), none], [.inl 0], (mm_w m1 133 0 0 v))) rfl ?_
  exact e_ret rfl rfl
set_option maxRecDepth 100000 in
theorem w_270_1 {d : Nat} {a1 a2 : Int32} {m m1 : mm_M} (hX : mm_X d 16 [.inr (.inr (some (0, 0))), .inl a1, .inl a2] m (.inr 1, m1, 1, 6)) : mm_X (d + 1) 270 [.inr (.inr (some (0, 0))), .inl a1, .inl a2, .inr (.inr (some (133, 0)))] m (.inl (some (.inl 1)), m1, 1, 6) := by
  show mm_E (d + 1) 270 (0, [some (.inr (.inr (some (0, 0)))), some (.inl a1), some (.inl a2), some (.inr (.inr (some (133, 0)))), none], [], m) _
  refine e_steps 5 (s' := (5, [some (.inr (.inr (some (0, 0)))), some (.inl a1), some (.inl a2), some (.inr (.inr (some (133, 0)))), none], [.inl a2, .inl a1, .inr (.inr (some (0, 0))), .inl 0, .inr (.inr (some (133, 0)))], m)) rfl ?_
  refine e_callh (hp := 13) (c := 1) (z := 6) (r := (.inl (some (.inl 1)), m1, 0, 0)) rfl rfl hX ?_
  refine e_steps 2 (s' := (16, [some (.inr (.inr (some (0, 0)))), some (.inl a1), some (.inl a2), some (.inr (.inr (some (133, 0)))), some (.inr (.inr (some (999, 0))))], [.inl 1], m1)) rfl ?_
  exact e_ret rfl rfl
-- GlassThreadsLaw.seen
set_option maxRecDepth 100000 in
theorem w_271 {d : Nat} {a1 : Int32} {m m1 : mm_M} {v : Int32} (hX : mm_X d 17 [.inr (.inr (some (0, 0))), .inl a1] m (.inl (some (.inl v)), m1, 0, 0)) : mm_X (d + 1) 271 [.inr (.inr (some (0, 0))), .inl a1, .inr (.inr (some (133, 0)))] m (.inl (some (.inl 0)), (mm_w m1 133 0 0 (mm_bz v)), 0, 0) := by
  show mm_E (d + 1) 271 (0, [some (.inr (.inr (some (0, 0)))), some (.inl a1), some (.inr (.inr (some (133, 0)))), none], [], m) _
  refine e_steps 4 (s' := (4, [some (.inr (.inr (some (0, 0)))), some (.inl a1), some (.inr (.inr (some (133, 0)))), none], [.inl a1, .inr (.inr (some (0, 0))), .inl 0, .inr (.inr (some (133, 0)))], m)) rfl ?_
  refine e_call0 (v := some (.inl v)) rfl hX ?_
  refine q_if (c := v = 0) (s1 := (14, [some (.inr (.inr (some (0, 0)))), some (.inl a1), some (.inr (.inr (some (133, 0)))), none], [.inl 0, .inr (.inr (some (133, 0)))], m1)) (s2 := (10, [some (.inr (.inr (some (0, 0)))), some (.inl a1), some (.inr (.inr (some (133, 0)))), none], [.inl 0, .inr (.inr (some (133, 0)))], m1)) rfl (fun hc => ?_) (fun hc => ?_)
  · rw [mm_bz0 hc]
    refine e_steps 1 (s' := (15, [some (.inr (.inr (some (0, 0)))), some (.inl a1), some (.inr (.inr (some (133, 0)))), none], [.inr (.inl 0), .inl 0, .inr (.inr (some (133, 0)))], m1)) rfl ?_
    refine e_mask (L' := [none, none, none, none]) rfl ?_
    refine e_steps 3 (s' := (23, [none, none, none, none], [.inl 0], (mm_w m1 133 0 0 0))) rfl ?_
    exact e_ret rfl rfl
  · rw [mm_bz1 hc]
    refine e_steps 2 (s' := (15, [some (.inr (.inr (some (0, 0)))), some (.inl a1), some (.inr (.inr (some (133, 0)))), none], [.inr (.inl 1), .inl 0, .inr (.inr (some (133, 0)))], m1)) rfl ?_
    refine e_mask (L' := [none, none, none, none]) rfl ?_
    refine e_steps 3 (s' := (23, [none, none, none, none], [.inl 0], (mm_w m1 133 0 0 1))) rfl ?_
    exact e_ret rfl rfl
set_option maxRecDepth 100000 in
theorem w_271_1 {d : Nat} {a1 : Int32} {m m1 : mm_M} (hX : mm_X d 17 [.inr (.inr (some (0, 0))), .inl a1] m (.inr 1, m1, 1, 6)) : mm_X (d + 1) 271 [.inr (.inr (some (0, 0))), .inl a1, .inr (.inr (some (133, 0)))] m (.inl (some (.inl 1)), m1, 1, 6) := by
  show mm_E (d + 1) 271 (0, [some (.inr (.inr (some (0, 0)))), some (.inl a1), some (.inr (.inr (some (133, 0)))), none], [], m) _
  refine e_steps 4 (s' := (4, [some (.inr (.inr (some (0, 0)))), some (.inl a1), some (.inr (.inr (some (133, 0)))), none], [.inl a1, .inr (.inr (some (0, 0))), .inl 0, .inr (.inr (some (133, 0)))], m)) rfl ?_
  refine e_callh (hp := 19) (c := 1) (z := 6) (r := (.inl (some (.inl 1)), m1, 0, 0)) rfl rfl hX ?_
  refine e_steps 2 (s' := (21, [some (.inr (.inr (some (0, 0)))), some (.inl a1), some (.inr (.inr (some (133, 0)))), some (.inr (.inr (some (999, 0))))], [.inl 1], m1)) rfl ?_
  exact e_ret rfl rfl
-- GlassThreadsLaw.readBack
set_option maxRecDepth 100000 in
theorem w_272 {d : Nat} {a1 : Int32} {m m1 : mm_M} {v : Int32} (hX : mm_X d 18 [.inr (.inr (some (0, 0))), .inl a1] m (.inl (some (.inl v)), m1, 0, 0)) : mm_X (d + 1) 272 [.inr (.inr (some (0, 0))), .inl a1, .inr (.inr (some (133, 0)))] m (.inl (some (.inl 0)), (mm_w m1 133 0 0 v), 0, 0) := by
  show mm_E (d + 1) 272 (0, [some (.inr (.inr (some (0, 0)))), some (.inl a1), some (.inr (.inr (some (133, 0)))), none], [], m) _
  refine e_steps 4 (s' := (4, [some (.inr (.inr (some (0, 0)))), some (.inl a1), some (.inr (.inr (some (133, 0)))), none], [.inl a1, .inr (.inr (some (0, 0))), .inl 0, .inr (.inr (some (133, 0)))], m)) rfl ?_
  refine e_call0 (v := some (.inl v)) rfl hX ?_
  refine e_steps 1 (s' := (8, [some (.inr (.inr (some (0, 0)))), some (.inl a1), some (.inr (.inr (some (133, 0)))), none], [.inr (.inl v), .inl 0, .inr (.inr (some (133, 0)))], m1)) rfl ?_
  refine e_steps 3 (s' := (16, [some (.inr (.inr (some (0, 0)))), some (.inl a1), some (.inr (.inr (some (133, 0)))), none], [.inl 0], (mm_w m1 133 0 0 v))) rfl ?_
  exact e_ret rfl rfl
set_option maxRecDepth 100000 in
theorem w_272_1 {d : Nat} {a1 : Int32} {m m1 : mm_M} (hX : mm_X d 18 [.inr (.inr (some (0, 0))), .inl a1] m (.inr 1, m1, 1, 6)) : mm_X (d + 1) 272 [.inr (.inr (some (0, 0))), .inl a1, .inr (.inr (some (133, 0)))] m (.inl (some (.inl 1)), m1, 1, 6) := by
  show mm_E (d + 1) 272 (0, [some (.inr (.inr (some (0, 0)))), some (.inl a1), some (.inr (.inr (some (133, 0)))), none], [], m) _
  refine e_steps 4 (s' := (4, [some (.inr (.inr (some (0, 0)))), some (.inl a1), some (.inr (.inr (some (133, 0)))), none], [.inl a1, .inr (.inr (some (0, 0))), .inl 0, .inr (.inr (some (133, 0)))], m)) rfl ?_
  refine e_callh (hp := 12) (c := 1) (z := 6) (r := (.inl (some (.inl 1)), m1, 0, 0)) rfl rfl hX ?_
  refine e_steps 2 (s' := (14, [some (.inr (.inr (some (0, 0)))), some (.inl a1), some (.inr (.inr (some (133, 0)))), some (.inr (.inr (some (999, 0))))], [.inl 1], m1)) rfl ?_
  exact e_ret rfl rfl
-- GlassThreadsLaw.found
set_option maxRecDepth 100000 in
theorem w_273 {d : Nat} {a1 : Int32} {m m1 : mm_M} {v : Int32} (hX : mm_X d 19 [.inr (.inr (some (0, 0))), .inl a1] m (.inl (some (.inl v)), m1, 0, 0)) : mm_X (d + 1) 273 [.inr (.inr (some (0, 0))), .inl a1, .inr (.inr (some (133, 0)))] m (.inl (some (.inl 0)), (mm_w m1 133 0 0 v), 0, 0) := by
  show mm_E (d + 1) 273 (0, [some (.inr (.inr (some (0, 0)))), some (.inl a1), some (.inr (.inr (some (133, 0)))), none], [], m) _
  refine e_steps 4 (s' := (4, [some (.inr (.inr (some (0, 0)))), some (.inl a1), some (.inr (.inr (some (133, 0)))), none], [.inl a1, .inr (.inr (some (0, 0))), .inl 0, .inr (.inr (some (133, 0)))], m)) rfl ?_
  refine e_call0 (v := some (.inl v)) rfl hX ?_
  refine e_steps 1 (s' := (8, [some (.inr (.inr (some (0, 0)))), some (.inl a1), some (.inr (.inr (some (133, 0)))), none], [.inr (.inl v), .inl 0, .inr (.inr (some (133, 0)))], m1)) rfl ?_
  refine e_steps 3 (s' := (16, [some (.inr (.inr (some (0, 0)))), some (.inl a1), some (.inr (.inr (some (133, 0)))), none], [.inl 0], (mm_w m1 133 0 0 v))) rfl ?_
  exact e_ret rfl rfl
set_option maxRecDepth 100000 in
theorem w_273_1 {d : Nat} {a1 : Int32} {m m1 : mm_M} (hX : mm_X d 19 [.inr (.inr (some (0, 0))), .inl a1] m (.inr 1, m1, 1, 6)) : mm_X (d + 1) 273 [.inr (.inr (some (0, 0))), .inl a1, .inr (.inr (some (133, 0)))] m (.inl (some (.inl 1)), m1, 1, 6) := by
  show mm_E (d + 1) 273 (0, [some (.inr (.inr (some (0, 0)))), some (.inl a1), some (.inr (.inr (some (133, 0)))), none], [], m) _
  refine e_steps 4 (s' := (4, [some (.inr (.inr (some (0, 0)))), some (.inl a1), some (.inr (.inr (some (133, 0)))), none], [.inl a1, .inr (.inr (some (0, 0))), .inl 0, .inr (.inr (some (133, 0)))], m)) rfl ?_
  refine e_callh (hp := 12) (c := 1) (z := 6) (r := (.inl (some (.inl 1)), m1, 0, 0)) rfl rfl hX ?_
  refine e_steps 2 (s' := (14, [some (.inr (.inr (some (0, 0)))), some (.inl a1), some (.inr (.inr (some (133, 0)))), some (.inr (.inr (some (999, 0))))], [.inl 1], m1)) rfl ?_
  exact e_ret rfl rfl
-- GlassThreadsLaw.dig
set_option maxRecDepth 100000 in
theorem w_274 {d : Nat} {a1 a2 a3 a4 : Int32} {m m1 : mm_M} {v : Int32} (hX : mm_X d 20 [.inr (.inr (some (0, 0))), .inl a1, .inl a2, .inl a3, .inl a4] m (.inl (some (.inl v)), m1, 0, 0)) : mm_X (d + 1) 274 [.inr (.inr (some (0, 0))), .inl a1, .inl a2, .inl a3, .inl a4, .inr (.inr (some (133, 0)))] m (.inl (some (.inl 0)), (mm_w m1 133 0 0 v), 0, 0) := by
  show mm_E (d + 1) 274 (0, [some (.inr (.inr (some (0, 0)))), some (.inl a1), some (.inl a2), some (.inl a3), some (.inl a4), some (.inr (.inr (some (133, 0)))), none], [], m) _
  refine e_steps 7 (s' := (9, [some (.inr (.inr (some (0, 0)))), some (.inl a1), some (.inl a2), some (.inl a3), some (.inl a4), some (.inr (.inr (some (133, 0)))), none], [.inl a4, .inl a3, .inl a2, .inl a1, .inr (.inr (some (0, 0))), .inl 0, .inr (.inr (some (133, 0)))], m)) rfl ?_
  refine e_call0 (v := some (.inl v)) rfl hX ?_
  refine e_steps 1 (s' := (13, [some (.inr (.inr (some (0, 0)))), some (.inl a1), some (.inl a2), some (.inl a3), some (.inl a4), some (.inr (.inr (some (133, 0)))), none], [.inr (.inl v), .inl 0, .inr (.inr (some (133, 0)))], m1)) rfl ?_
  refine e_steps 3 (s' := (26, [some (.inr (.inr (some (0, 0)))), some (.inl a1), some (.inl a2), some (.inl a3), some (.inl a4), some (.inr (.inr (some (133, 0)))), none], [.inl 0], (mm_w m1 133 0 0 v))) rfl ?_
  exact e_ret rfl rfl
set_option maxRecDepth 100000 in
theorem w_274_0 {d : Nat} {a1 a2 a3 a4 : Int32} {m m1 : mm_M} (hX : mm_X d 20 [.inr (.inr (some (0, 0))), .inl a1, .inl a2, .inl a3, .inl a4] m (.inr 0, m1, 1, 6)) : mm_X (d + 1) 274 [.inr (.inr (some (0, 0))), .inl a1, .inl a2, .inl a3, .inl a4, .inr (.inr (some (133, 0)))] m (.inl (some (.inl 1)), m1, 1, 6) := by
  show mm_E (d + 1) 274 (0, [some (.inr (.inr (some (0, 0)))), some (.inl a1), some (.inl a2), some (.inl a3), some (.inl a4), some (.inr (.inr (some (133, 0)))), none], [], m) _
  refine e_steps 7 (s' := (9, [some (.inr (.inr (some (0, 0)))), some (.inl a1), some (.inl a2), some (.inl a3), some (.inl a4), some (.inr (.inr (some (133, 0)))), none], [.inl a4, .inl a3, .inl a2, .inl a1, .inr (.inr (some (0, 0))), .inl 0, .inr (.inr (some (133, 0)))], m)) rfl ?_
  refine e_callh (hp := 17) (c := 1) (z := 6) (r := (.inl (some (.inl 1)), m1, 0, 0)) rfl rfl hX ?_
  refine e_steps 2 (s' := (20, [some (.inr (.inr (some (0, 0)))), some (.inl a1), some (.inl a2), some (.inl a3), some (.inl a4), some (.inr (.inr (some (133, 0)))), some (.inr (.inr (some (999, 0))))], [.inl 1], m1)) rfl ?_
  exact e_ret rfl rfl
set_option maxRecDepth 100000 in
theorem w_274_1 {d : Nat} {a1 a2 a3 a4 : Int32} {m m1 : mm_M} (hX : mm_X d 20 [.inr (.inr (some (0, 0))), .inl a1, .inl a2, .inl a3, .inl a4] m (.inr 1, m1, 1, 6)) : mm_X (d + 1) 274 [.inr (.inr (some (0, 0))), .inl a1, .inl a2, .inl a3, .inl a4, .inr (.inr (some (133, 0)))] m (.inl (some (.inl 2)), m1, 1, 6) := by
  show mm_E (d + 1) 274 (0, [some (.inr (.inr (some (0, 0)))), some (.inl a1), some (.inl a2), some (.inl a3), some (.inl a4), some (.inr (.inr (some (133, 0)))), none], [], m) _
  refine e_steps 7 (s' := (9, [some (.inr (.inr (some (0, 0)))), some (.inl a1), some (.inl a2), some (.inl a3), some (.inl a4), some (.inr (.inr (some (133, 0)))), none], [.inl a4, .inl a3, .inl a2, .inl a1, .inr (.inr (some (0, 0))), .inl 0, .inr (.inr (some (133, 0)))], m)) rfl ?_
  refine e_callh (hp := 21) (c := 1) (z := 6) (r := (.inl (some (.inl 2)), m1, 0, 0)) rfl rfl hX ?_
  refine e_steps 2 (s' := (24, [some (.inr (.inr (some (0, 0)))), some (.inl a1), some (.inl a2), some (.inl a3), some (.inl a4), some (.inr (.inr (some (133, 0)))), some (.inr (.inr (some (999, 0))))], [.inl 2], m1)) rfl ?_
  exact e_ret rfl rfl
-- GlassThreadsLaw.both
set_option maxRecDepth 100000 in
theorem w_275 {d : Nat} {a1 a2 a3 a4 a5 a6 : Int32} {m m1 : mm_M} {v : Int32} (hX : mm_X d 21 [.inr (.inr (some (0, 0))), .inl a1, .inl a2, .inl a3, .inl a4, .inl a5, .inl a6] m (.inl (some (.inl v)), m1, 0, 0)) : mm_X (d + 1) 275 [.inr (.inr (some (0, 0))), .inl a1, .inl a2, .inl a3, .inl a4, .inl a5, .inl a6, .inr (.inr (some (133, 0)))] m (.inl (some (.inl 0)), (mm_w m1 133 0 0 v), 0, 0) := by
  show mm_E (d + 1) 275 (0, [some (.inr (.inr (some (0, 0)))), some (.inl a1), some (.inl a2), some (.inl a3), some (.inl a4), some (.inl a5), some (.inl a6), some (.inr (.inr (some (133, 0)))), none], [], m) _
  refine e_steps 9 (s' := (13, [some (.inr (.inr (some (0, 0)))), some (.inl a1), some (.inl a2), some (.inl a3), some (.inl a4), some (.inl a5), some (.inl a6), some (.inr (.inr (some (133, 0)))), none], [.inl a6, .inl a5, .inl a4, .inl a3, .inl a2, .inl a1, .inr (.inr (some (0, 0))), .inl 0, .inr (.inr (some (133, 0)))], m)) rfl ?_
  refine e_call0 (v := some (.inl v)) rfl hX ?_
  refine e_steps 1 (s' := (17, [some (.inr (.inr (some (0, 0)))), some (.inl a1), some (.inl a2), some (.inl a3), some (.inl a4), some (.inl a5), some (.inl a6), some (.inr (.inr (some (133, 0)))), none], [.inr (.inl v), .inl 0, .inr (.inr (some (133, 0)))], m1)) rfl ?_
  refine e_steps 3 (s' := (30, [some (.inr (.inr (some (0, 0)))), some (.inl a1), some (.inl a2), some (.inl a3), some (.inl a4), some (.inl a5), some (.inl a6), some (.inr (.inr (some (133, 0)))), none], [.inl 0], (mm_w m1 133 0 0 v))) rfl ?_
  exact e_ret rfl rfl
set_option maxRecDepth 100000 in
theorem w_275_0 {d : Nat} {a1 a2 a3 a4 a5 a6 : Int32} {m m1 : mm_M} (hX : mm_X d 21 [.inr (.inr (some (0, 0))), .inl a1, .inl a2, .inl a3, .inl a4, .inl a5, .inl a6] m (.inr 0, m1, 1, 6)) : mm_X (d + 1) 275 [.inr (.inr (some (0, 0))), .inl a1, .inl a2, .inl a3, .inl a4, .inl a5, .inl a6, .inr (.inr (some (133, 0)))] m (.inl (some (.inl 1)), m1, 1, 6) := by
  show mm_E (d + 1) 275 (0, [some (.inr (.inr (some (0, 0)))), some (.inl a1), some (.inl a2), some (.inl a3), some (.inl a4), some (.inl a5), some (.inl a6), some (.inr (.inr (some (133, 0)))), none], [], m) _
  refine e_steps 9 (s' := (13, [some (.inr (.inr (some (0, 0)))), some (.inl a1), some (.inl a2), some (.inl a3), some (.inl a4), some (.inl a5), some (.inl a6), some (.inr (.inr (some (133, 0)))), none], [.inl a6, .inl a5, .inl a4, .inl a3, .inl a2, .inl a1, .inr (.inr (some (0, 0))), .inl 0, .inr (.inr (some (133, 0)))], m)) rfl ?_
  refine e_callh (hp := 21) (c := 1) (z := 6) (r := (.inl (some (.inl 1)), m1, 0, 0)) rfl rfl hX ?_
  refine e_steps 2 (s' := (24, [some (.inr (.inr (some (0, 0)))), some (.inl a1), some (.inl a2), some (.inl a3), some (.inl a4), some (.inl a5), some (.inl a6), some (.inr (.inr (some (133, 0)))), some (.inr (.inr (some (999, 0))))], [.inl 1], m1)) rfl ?_
  exact e_ret rfl rfl
set_option maxRecDepth 100000 in
theorem w_275_1 {d : Nat} {a1 a2 a3 a4 a5 a6 : Int32} {m m1 : mm_M} (hX : mm_X d 21 [.inr (.inr (some (0, 0))), .inl a1, .inl a2, .inl a3, .inl a4, .inl a5, .inl a6] m (.inr 1, m1, 1, 6)) : mm_X (d + 1) 275 [.inr (.inr (some (0, 0))), .inl a1, .inl a2, .inl a3, .inl a4, .inl a5, .inl a6, .inr (.inr (some (133, 0)))] m (.inl (some (.inl 2)), m1, 1, 6) := by
  show mm_E (d + 1) 275 (0, [some (.inr (.inr (some (0, 0)))), some (.inl a1), some (.inl a2), some (.inl a3), some (.inl a4), some (.inl a5), some (.inl a6), some (.inr (.inr (some (133, 0)))), none], [], m) _
  refine e_steps 9 (s' := (13, [some (.inr (.inr (some (0, 0)))), some (.inl a1), some (.inl a2), some (.inl a3), some (.inl a4), some (.inl a5), some (.inl a6), some (.inr (.inr (some (133, 0)))), none], [.inl a6, .inl a5, .inl a4, .inl a3, .inl a2, .inl a1, .inr (.inr (some (0, 0))), .inl 0, .inr (.inr (some (133, 0)))], m)) rfl ?_
  refine e_callh (hp := 25) (c := 1) (z := 6) (r := (.inl (some (.inl 2)), m1, 0, 0)) rfl rfl hX ?_
  refine e_steps 2 (s' := (28, [some (.inr (.inr (some (0, 0)))), some (.inl a1), some (.inl a2), some (.inl a3), some (.inl a4), some (.inl a5), some (.inl a6), some (.inr (.inr (some (133, 0)))), some (.inr (.inr (some (999, 0))))], [.inl 2], m1)) rfl ?_
  exact e_ret rfl rfl
-- GlassThreadsLaw.lamps
set_option maxRecDepth 100000 in
theorem w_276 {d : Nat} {a1 a2 a3 a4 a5 a6 a7 a8 : Int32} {m m1 : mm_M} {v : Int32} (hX : mm_X d 22 [.inr (.inr (some (0, 0))), .inl a1, .inl a2, .inl a3, .inl a4, .inl a5, .inl a6, .inl a7, .inl a8] m (.inl (some (.inl v)), m1, 0, 0)) : mm_X (d + 1) 276 [.inr (.inr (some (0, 0))), .inl a1, .inl a2, .inl a3, .inl a4, .inl a5, .inl a6, .inl a7, .inl a8, .inr (.inr (some (133, 0)))] m (.inl (some (.inl 0)), (mm_w m1 133 0 0 v), 0, 0) := by
  show mm_E (d + 1) 276 (0, [some (.inr (.inr (some (0, 0)))), some (.inl a1), some (.inl a2), some (.inl a3), some (.inl a4), some (.inl a5), some (.inl a6), some (.inl a7), some (.inl a8), some (.inr (.inr (some (133, 0)))), none], [], m) _
  refine e_steps 11 (s' := (17, [some (.inr (.inr (some (0, 0)))), some (.inl a1), some (.inl a2), some (.inl a3), some (.inl a4), some (.inl a5), some (.inl a6), some (.inl a7), some (.inl a8), some (.inr (.inr (some (133, 0)))), none], [.inl a8, .inl a7, .inl a6, .inl a5, .inl a4, .inl a3, .inl a2, .inl a1, .inr (.inr (some (0, 0))), .inl 0, .inr (.inr (some (133, 0)))], m)) rfl ?_
  refine e_call0 (v := some (.inl v)) rfl hX ?_
  refine e_steps 1 (s' := (21, [some (.inr (.inr (some (0, 0)))), some (.inl a1), some (.inl a2), some (.inl a3), some (.inl a4), some (.inl a5), some (.inl a6), some (.inl a7), some (.inl a8), some (.inr (.inr (some (133, 0)))), none], [.inr (.inl v), .inl 0, .inr (.inr (some (133, 0)))], m1)) rfl ?_
  refine e_steps 3 (s' := (34, [some (.inr (.inr (some (0, 0)))), some (.inl a1), some (.inl a2), some (.inl a3), some (.inl a4), some (.inl a5), some (.inl a6), some (.inl a7), some (.inl a8), some (.inr (.inr (some (133, 0)))), none], [.inl 0], (mm_w m1 133 0 0 v))) rfl ?_
  exact e_ret rfl rfl
set_option maxRecDepth 100000 in
theorem w_276_1 {d : Nat} {a1 a2 a3 a4 a5 a6 a7 a8 : Int32} {m m1 : mm_M} (hX : mm_X d 22 [.inr (.inr (some (0, 0))), .inl a1, .inl a2, .inl a3, .inl a4, .inl a5, .inl a6, .inl a7, .inl a8] m (.inr 1, m1, 1, 6)) : mm_X (d + 1) 276 [.inr (.inr (some (0, 0))), .inl a1, .inl a2, .inl a3, .inl a4, .inl a5, .inl a6, .inl a7, .inl a8, .inr (.inr (some (133, 0)))] m (.inl (some (.inl 1)), m1, 1, 6) := by
  show mm_E (d + 1) 276 (0, [some (.inr (.inr (some (0, 0)))), some (.inl a1), some (.inl a2), some (.inl a3), some (.inl a4), some (.inl a5), some (.inl a6), some (.inl a7), some (.inl a8), some (.inr (.inr (some (133, 0)))), none], [], m) _
  refine e_steps 11 (s' := (17, [some (.inr (.inr (some (0, 0)))), some (.inl a1), some (.inl a2), some (.inl a3), some (.inl a4), some (.inl a5), some (.inl a6), some (.inl a7), some (.inl a8), some (.inr (.inr (some (133, 0)))), none], [.inl a8, .inl a7, .inl a6, .inl a5, .inl a4, .inl a3, .inl a2, .inl a1, .inr (.inr (some (0, 0))), .inl 0, .inr (.inr (some (133, 0)))], m)) rfl ?_
  refine e_callh (hp := 25) (c := 1) (z := 6) (r := (.inl (some (.inl 1)), m1, 0, 0)) rfl rfl hX ?_
  refine e_steps 2 (s' := (28, [some (.inr (.inr (some (0, 0)))), some (.inl a1), some (.inl a2), some (.inl a3), some (.inl a4), some (.inl a5), some (.inl a6), some (.inl a7), some (.inl a8), some (.inr (.inr (some (133, 0)))), some (.inr (.inr (some (999, 0))))], [.inl 1], m1)) rfl ?_
  exact e_ret rfl rfl
set_option maxRecDepth 100000 in
theorem w_276_0 {d : Nat} {a1 a2 a3 a4 a5 a6 a7 a8 : Int32} {m m1 : mm_M} (hX : mm_X d 22 [.inr (.inr (some (0, 0))), .inl a1, .inl a2, .inl a3, .inl a4, .inl a5, .inl a6, .inl a7, .inl a8] m (.inr 0, m1, 1, 6)) : mm_X (d + 1) 276 [.inr (.inr (some (0, 0))), .inl a1, .inl a2, .inl a3, .inl a4, .inl a5, .inl a6, .inl a7, .inl a8, .inr (.inr (some (133, 0)))] m (.inl (some (.inl 2)), m1, 1, 6) := by
  show mm_E (d + 1) 276 (0, [some (.inr (.inr (some (0, 0)))), some (.inl a1), some (.inl a2), some (.inl a3), some (.inl a4), some (.inl a5), some (.inl a6), some (.inl a7), some (.inl a8), some (.inr (.inr (some (133, 0)))), none], [], m) _
  refine e_steps 11 (s' := (17, [some (.inr (.inr (some (0, 0)))), some (.inl a1), some (.inl a2), some (.inl a3), some (.inl a4), some (.inl a5), some (.inl a6), some (.inl a7), some (.inl a8), some (.inr (.inr (some (133, 0)))), none], [.inl a8, .inl a7, .inl a6, .inl a5, .inl a4, .inl a3, .inl a2, .inl a1, .inr (.inr (some (0, 0))), .inl 0, .inr (.inr (some (133, 0)))], m)) rfl ?_
  refine e_callh (hp := 29) (c := 1) (z := 6) (r := (.inl (some (.inl 2)), m1, 0, 0)) rfl rfl hX ?_
  refine e_steps 2 (s' := (32, [some (.inr (.inr (some (0, 0)))), some (.inl a1), some (.inl a2), some (.inl a3), some (.inl a4), some (.inl a5), some (.inl a6), some (.inl a7), some (.inl a8), some (.inr (.inr (some (133, 0)))), some (.inr (.inr (some (999, 0))))], [.inl 2], m1)) rfl ?_
  exact e_ret rfl rfl
-- GlassThreadsLaw.steps
set_option maxRecDepth 100000 in
theorem w_277 {d : Nat} {a1 : Int32} {m m1 : mm_M} {v : Int32} (hX : mm_X d 23 [.inr (.inr (some (0, 0))), .inl a1] m (.inl (some (.inl v)), m1, 0, 0)) : mm_X (d + 1) 277 [.inr (.inr (some (0, 0))), .inl a1, .inr (.inr (some (133, 0)))] m (.inl (some (.inl 0)), (mm_w m1 133 0 0 v), 0, 0) := by
  show mm_E (d + 1) 277 (0, [some (.inr (.inr (some (0, 0)))), some (.inl a1), some (.inr (.inr (some (133, 0)))), none], [], m) _
  refine e_steps 4 (s' := (4, [some (.inr (.inr (some (0, 0)))), some (.inl a1), some (.inr (.inr (some (133, 0)))), none], [.inl a1, .inr (.inr (some (0, 0))), .inl 0, .inr (.inr (some (133, 0)))], m)) rfl ?_
  refine e_call0 (v := some (.inl v)) rfl hX ?_
  refine e_steps 1 (s' := (8, [some (.inr (.inr (some (0, 0)))), some (.inl a1), some (.inr (.inr (some (133, 0)))), none], [.inr (.inl v), .inl 0, .inr (.inr (some (133, 0)))], m1)) rfl ?_
  refine e_steps 3 (s' := (16, [some (.inr (.inr (some (0, 0)))), some (.inl a1), some (.inr (.inr (some (133, 0)))), none], [.inl 0], (mm_w m1 133 0 0 v))) rfl ?_
  exact e_ret rfl rfl
set_option maxRecDepth 100000 in
theorem w_277_1 {d : Nat} {a1 : Int32} {m m1 : mm_M} (hX : mm_X d 23 [.inr (.inr (some (0, 0))), .inl a1] m (.inr 1, m1, 1, 6)) : mm_X (d + 1) 277 [.inr (.inr (some (0, 0))), .inl a1, .inr (.inr (some (133, 0)))] m (.inl (some (.inl 1)), m1, 1, 6) := by
  show mm_E (d + 1) 277 (0, [some (.inr (.inr (some (0, 0)))), some (.inl a1), some (.inr (.inr (some (133, 0)))), none], [], m) _
  refine e_steps 4 (s' := (4, [some (.inr (.inr (some (0, 0)))), some (.inl a1), some (.inr (.inr (some (133, 0)))), none], [.inl a1, .inr (.inr (some (0, 0))), .inl 0, .inr (.inr (some (133, 0)))], m)) rfl ?_
  refine e_callh (hp := 12) (c := 1) (z := 6) (r := (.inl (some (.inl 1)), m1, 0, 0)) rfl rfl hX ?_
  refine e_steps 2 (s' := (14, [some (.inr (.inr (some (0, 0)))), some (.inl a1), some (.inr (.inr (some (133, 0)))), some (.inr (.inr (some (999, 0))))], [.inl 1], m1)) rfl ?_
  exact e_ret rfl rfl
-- GlassThreadsLaw.cable
set_option maxRecDepth 100000 in
theorem w_278 {d : Nat} {a1 a2 a3 a4 : Int32} {m m1 : mm_M} {v : Int32} (hX : mm_X d 24 [.inr (.inr (some (0, 0))), .inl a1, .inl a2, .inl a3, .inl a4] m (.inl (some (.inl v)), m1, 0, 0)) : mm_X (d + 1) 278 [.inr (.inr (some (0, 0))), .inl a1, .inl a2, .inl a3, .inl a4, .inr (.inr (some (133, 0)))] m (.inl (some (.inl 0)), (mm_w m1 133 0 0 v), 0, 0) := by
  show mm_E (d + 1) 278 (0, [some (.inr (.inr (some (0, 0)))), some (.inl a1), some (.inl a2), some (.inl a3), some (.inl a4), some (.inr (.inr (some (133, 0)))), none], [], m) _
  refine e_steps 7 (s' := (9, [some (.inr (.inr (some (0, 0)))), some (.inl a1), some (.inl a2), some (.inl a3), some (.inl a4), some (.inr (.inr (some (133, 0)))), none], [.inl a4, .inl a3, .inl a2, .inl a1, .inr (.inr (some (0, 0))), .inl 0, .inr (.inr (some (133, 0)))], m)) rfl ?_
  refine e_call0 (v := some (.inl v)) rfl hX ?_
  refine e_steps 1 (s' := (13, [some (.inr (.inr (some (0, 0)))), some (.inl a1), some (.inl a2), some (.inl a3), some (.inl a4), some (.inr (.inr (some (133, 0)))), none], [.inr (.inl v), .inl 0, .inr (.inr (some (133, 0)))], m1)) rfl ?_
  refine e_steps 3 (s' := (22, [some (.inr (.inr (some (0, 0)))), some (.inl a1), some (.inl a2), some (.inl a3), some (.inl a4), some (.inr (.inr (some (133, 0)))), none], [.inl 0], (mm_w m1 133 0 0 v))) rfl ?_
  exact e_ret rfl rfl
set_option maxRecDepth 100000 in
theorem w_278_1 {d : Nat} {a1 a2 a3 a4 : Int32} {m m1 : mm_M} (hX : mm_X d 24 [.inr (.inr (some (0, 0))), .inl a1, .inl a2, .inl a3, .inl a4] m (.inr 1, m1, 1, 6)) : mm_X (d + 1) 278 [.inr (.inr (some (0, 0))), .inl a1, .inl a2, .inl a3, .inl a4, .inr (.inr (some (133, 0)))] m (.inl (some (.inl 1)), m1, 1, 6) := by
  show mm_E (d + 1) 278 (0, [some (.inr (.inr (some (0, 0)))), some (.inl a1), some (.inl a2), some (.inl a3), some (.inl a4), some (.inr (.inr (some (133, 0)))), none], [], m) _
  refine e_steps 7 (s' := (9, [some (.inr (.inr (some (0, 0)))), some (.inl a1), some (.inl a2), some (.inl a3), some (.inl a4), some (.inr (.inr (some (133, 0)))), none], [.inl a4, .inl a3, .inl a2, .inl a1, .inr (.inr (some (0, 0))), .inl 0, .inr (.inr (some (133, 0)))], m)) rfl ?_
  refine e_callh (hp := 17) (c := 1) (z := 6) (r := (.inl (some (.inl 1)), m1, 0, 0)) rfl rfl hX ?_
  refine e_steps 2 (s' := (20, [some (.inr (.inr (some (0, 0)))), some (.inl a1), some (.inl a2), some (.inl a3), some (.inl a4), some (.inr (.inr (some (133, 0)))), some (.inr (.inr (some (999, 0))))], [.inl 1], m1)) rfl ?_
  exact e_ret rfl rfl
-- GlassThreadsLaw.task
set_option maxRecDepth 100000 in
theorem w_279 {d : Nat} {a1 a2 : Int32} {m m1 : mm_M} {v : Int32} (hX : mm_X d 25 [.inr (.inr (some (0, 0))), .inl a1, .inl a2] m (.inl (some (.inl v)), m1, 0, 0)) : mm_X (d + 1) 279 [.inr (.inr (some (0, 0))), .inl a1, .inl a2, .inr (.inr (some (133, 0)))] m (.inl (some (.inl 0)), (mm_w m1 133 0 0 v), 0, 0) := by
  show mm_E (d + 1) 279 (0, [some (.inr (.inr (some (0, 0)))), some (.inl a1), some (.inl a2), some (.inr (.inr (some (133, 0)))), none], [], m) _
  refine e_steps 5 (s' := (5, [some (.inr (.inr (some (0, 0)))), some (.inl a1), some (.inl a2), some (.inr (.inr (some (133, 0)))), none], [.inl a2, .inl a1, .inr (.inr (some (0, 0))), .inl 0, .inr (.inr (some (133, 0)))], m)) rfl ?_
  refine e_call0 (v := some (.inl v)) rfl hX ?_
  refine e_steps 1 (s' := (9, [some (.inr (.inr (some (0, 0)))), some (.inl a1), some (.inl a2), some (.inr (.inr (some (133, 0)))), none], [.inr (.inl v), .inl 0, .inr (.inr (some (133, 0)))], m1)) rfl ?_
  refine e_steps 3 (s' := (18, [some (.inr (.inr (some (0, 0)))), some (.inl a1), some (.inl a2), some (.inr (.inr (some (133, 0)))), none], [.inl 0], (mm_w m1 133 0 0 v))) rfl ?_
  exact e_ret rfl rfl
set_option maxRecDepth 100000 in
theorem w_279_1 {d : Nat} {a1 a2 : Int32} {m m1 : mm_M} (hX : mm_X d 25 [.inr (.inr (some (0, 0))), .inl a1, .inl a2] m (.inr 1, m1, 1, 6)) : mm_X (d + 1) 279 [.inr (.inr (some (0, 0))), .inl a1, .inl a2, .inr (.inr (some (133, 0)))] m (.inl (some (.inl 1)), m1, 1, 6) := by
  show mm_E (d + 1) 279 (0, [some (.inr (.inr (some (0, 0)))), some (.inl a1), some (.inl a2), some (.inr (.inr (some (133, 0)))), none], [], m) _
  refine e_steps 5 (s' := (5, [some (.inr (.inr (some (0, 0)))), some (.inl a1), some (.inl a2), some (.inr (.inr (some (133, 0)))), none], [.inl a2, .inl a1, .inr (.inr (some (0, 0))), .inl 0, .inr (.inr (some (133, 0)))], m)) rfl ?_
  refine e_callh (hp := 13) (c := 1) (z := 6) (r := (.inl (some (.inl 1)), m1, 0, 0)) rfl rfl hX ?_
  refine e_steps 2 (s' := (16, [some (.inr (.inr (some (0, 0)))), some (.inl a1), some (.inl a2), some (.inr (.inr (some (133, 0)))), some (.inr (.inr (some (999, 0))))], [.inl 1], m1)) rfl ?_
  exact e_ret rfl rfl
-- GlassThreadsLaw.way
set_option maxRecDepth 100000 in
theorem w_280 {d : Nat} {a1 a2 : Int32} {m m1 : mm_M} {v : Int32} (hX : mm_X d 26 [.inr (.inr (some (0, 0))), .inl a1, .inl a2] m (.inl (some (.inl v)), m1, 0, 0)) : mm_X (d + 1) 280 [.inr (.inr (some (0, 0))), .inl a1, .inl a2, .inr (.inr (some (133, 0)))] m (.inl (some (.inl 0)), (mm_w m1 133 0 0 v), 0, 0) := by
  show mm_E (d + 1) 280 (0, [some (.inr (.inr (some (0, 0)))), some (.inl a1), some (.inl a2), some (.inr (.inr (some (133, 0)))), none], [], m) _
  refine e_steps 5 (s' := (5, [some (.inr (.inr (some (0, 0)))), some (.inl a1), some (.inl a2), some (.inr (.inr (some (133, 0)))), none], [.inl a2, .inl a1, .inr (.inr (some (0, 0))), .inl 0, .inr (.inr (some (133, 0)))], m)) rfl ?_
  refine e_call0 (v := some (.inl v)) rfl hX ?_
  refine e_steps 1 (s' := (9, [some (.inr (.inr (some (0, 0)))), some (.inl a1), some (.inl a2), some (.inr (.inr (some (133, 0)))), none], [.inr (.inl v), .inl 0, .inr (.inr (some (133, 0)))], m1)) rfl ?_
  refine e_steps 3 (s' := (18, [some (.inr (.inr (some (0, 0)))), some (.inl a1), some (.inl a2), some (.inr (.inr (some (133, 0)))), none], [.inl 0], (mm_w m1 133 0 0 v))) rfl ?_
  exact e_ret rfl rfl
set_option maxRecDepth 100000 in
theorem w_280_1 {d : Nat} {a1 a2 : Int32} {m m1 : mm_M} (hX : mm_X d 26 [.inr (.inr (some (0, 0))), .inl a1, .inl a2] m (.inr 1, m1, 1, 6)) : mm_X (d + 1) 280 [.inr (.inr (some (0, 0))), .inl a1, .inl a2, .inr (.inr (some (133, 0)))] m (.inl (some (.inl 1)), m1, 1, 6) := by
  show mm_E (d + 1) 280 (0, [some (.inr (.inr (some (0, 0)))), some (.inl a1), some (.inl a2), some (.inr (.inr (some (133, 0)))), none], [], m) _
  refine e_steps 5 (s' := (5, [some (.inr (.inr (some (0, 0)))), some (.inl a1), some (.inl a2), some (.inr (.inr (some (133, 0)))), none], [.inl a2, .inl a1, .inr (.inr (some (0, 0))), .inl 0, .inr (.inr (some (133, 0)))], m)) rfl ?_
  refine e_callh (hp := 13) (c := 1) (z := 6) (r := (.inl (some (.inl 1)), m1, 0, 0)) rfl rfl hX ?_
  refine e_steps 2 (s' := (16, [some (.inr (.inr (some (0, 0)))), some (.inl a1), some (.inl a2), some (.inr (.inr (some (133, 0)))), some (.inr (.inr (some (999, 0))))], [.inl 1], m1)) rfl ?_
  exact e_ret rfl rfl
-- GlassThreadsLaw.pair
set_option maxRecDepth 100000 in
theorem w_281 {d : Nat} {a1 a2 : Int32} {m m1 : mm_M} {v : Int32} (hX : mm_X d 27 [.inr (.inr (some (0, 0))), .inl a1, .inl a2] m (.inl (some (.inl v)), m1, 0, 0)) : mm_X (d + 1) 281 [.inr (.inr (some (0, 0))), .inl a1, .inl a2, .inr (.inr (some (133, 0)))] m (.inl (some (.inl 0)), (mm_w m1 133 0 0 v), 0, 0) := by
  show mm_E (d + 1) 281 (0, [some (.inr (.inr (some (0, 0)))), some (.inl a1), some (.inl a2), some (.inr (.inr (some (133, 0)))), none], [], m) _
  refine e_steps 5 (s' := (5, [some (.inr (.inr (some (0, 0)))), some (.inl a1), some (.inl a2), some (.inr (.inr (some (133, 0)))), none], [.inl a2, .inl a1, .inr (.inr (some (0, 0))), .inl 0, .inr (.inr (some (133, 0)))], m)) rfl ?_
  refine e_call0 (v := some (.inl v)) rfl hX ?_
  refine e_steps 1 (s' := (9, [some (.inr (.inr (some (0, 0)))), some (.inl a1), some (.inl a2), some (.inr (.inr (some (133, 0)))), none], [.inr (.inl v), .inl 0, .inr (.inr (some (133, 0)))], m1)) rfl ?_
  refine e_steps 3 (s' := (18, [some (.inr (.inr (some (0, 0)))), some (.inl a1), some (.inl a2), some (.inr (.inr (some (133, 0)))), none], [.inl 0], (mm_w m1 133 0 0 v))) rfl ?_
  exact e_ret rfl rfl
set_option maxRecDepth 100000 in
theorem w_281_1 {d : Nat} {a1 a2 : Int32} {m m1 : mm_M} (hX : mm_X d 27 [.inr (.inr (some (0, 0))), .inl a1, .inl a2] m (.inr 1, m1, 1, 6)) : mm_X (d + 1) 281 [.inr (.inr (some (0, 0))), .inl a1, .inl a2, .inr (.inr (some (133, 0)))] m (.inl (some (.inl 1)), m1, 1, 6) := by
  show mm_E (d + 1) 281 (0, [some (.inr (.inr (some (0, 0)))), some (.inl a1), some (.inl a2), some (.inr (.inr (some (133, 0)))), none], [], m) _
  refine e_steps 5 (s' := (5, [some (.inr (.inr (some (0, 0)))), some (.inl a1), some (.inl a2), some (.inr (.inr (some (133, 0)))), none], [.inl a2, .inl a1, .inr (.inr (some (0, 0))), .inl 0, .inr (.inr (some (133, 0)))], m)) rfl ?_
  refine e_callh (hp := 13) (c := 1) (z := 6) (r := (.inl (some (.inl 1)), m1, 0, 0)) rfl rfl hX ?_
  refine e_steps 2 (s' := (16, [some (.inr (.inr (some (0, 0)))), some (.inl a1), some (.inl a2), some (.inr (.inr (some (133, 0)))), some (.inr (.inr (some (999, 0))))], [.inl 1], m1)) rfl ?_
  exact e_ret rfl rfl
-- GlassThreadsLaw.along
set_option maxRecDepth 100000 in
theorem w_282 {d : Nat} {a1 : Int32} {m m1 : mm_M} {v : Int32} (hX : mm_X d 28 [.inr (.inr (some (0, 0))), .inl a1] m (.inl (some (.inl v)), m1, 0, 0)) : mm_X (d + 1) 282 [.inr (.inr (some (0, 0))), .inl a1, .inr (.inr (some (133, 0)))] m (.inl (some (.inl 0)), (mm_w m1 133 0 0 v), 0, 0) := by
  show mm_E (d + 1) 282 (0, [some (.inr (.inr (some (0, 0)))), some (.inl a1), some (.inr (.inr (some (133, 0)))), none], [], m) _
  refine e_steps 4 (s' := (4, [some (.inr (.inr (some (0, 0)))), some (.inl a1), some (.inr (.inr (some (133, 0)))), none], [.inl a1, .inr (.inr (some (0, 0))), .inl 0, .inr (.inr (some (133, 0)))], m)) rfl ?_
  refine e_call0 (v := some (.inl v)) rfl hX ?_
  refine e_steps 1 (s' := (8, [some (.inr (.inr (some (0, 0)))), some (.inl a1), some (.inr (.inr (some (133, 0)))), none], [.inr (.inl v), .inl 0, .inr (.inr (some (133, 0)))], m1)) rfl ?_
  refine e_steps 3 (s' := (16, [some (.inr (.inr (some (0, 0)))), some (.inl a1), some (.inr (.inr (some (133, 0)))), none], [.inl 0], (mm_w m1 133 0 0 v))) rfl ?_
  exact e_ret rfl rfl
set_option maxRecDepth 100000 in
theorem w_282_1 {d : Nat} {a1 : Int32} {m m1 : mm_M} (hX : mm_X d 28 [.inr (.inr (some (0, 0))), .inl a1] m (.inr 1, m1, 1, 6)) : mm_X (d + 1) 282 [.inr (.inr (some (0, 0))), .inl a1, .inr (.inr (some (133, 0)))] m (.inl (some (.inl 1)), m1, 1, 6) := by
  show mm_E (d + 1) 282 (0, [some (.inr (.inr (some (0, 0)))), some (.inl a1), some (.inr (.inr (some (133, 0)))), none], [], m) _
  refine e_steps 4 (s' := (4, [some (.inr (.inr (some (0, 0)))), some (.inl a1), some (.inr (.inr (some (133, 0)))), none], [.inl a1, .inr (.inr (some (0, 0))), .inl 0, .inr (.inr (some (133, 0)))], m)) rfl ?_
  refine e_callh (hp := 12) (c := 1) (z := 6) (r := (.inl (some (.inl 1)), m1, 0, 0)) rfl rfl hX ?_
  refine e_steps 2 (s' := (14, [some (.inr (.inr (some (0, 0)))), some (.inl a1), some (.inr (.inr (some (133, 0)))), some (.inr (.inr (some (999, 0))))], [.inl 1], m1)) rfl ?_
  exact e_ret rfl rfl
-- GlassThreadsLaw.dealt
set_option maxRecDepth 100000 in
theorem w_283 {d : Nat} {a1 : Int32} {m m1 : mm_M} {v : Int32} (hX : mm_X d 30 [.inr (.inr (some (0, 0))), .inl a1] m (.inl (some (.inl v)), m1, 0, 0)) : mm_X (d + 1) 283 [.inr (.inr (some (0, 0))), .inl a1, .inr (.inr (some (133, 0)))] m (.inl (some (.inl 0)), (mm_w m1 133 0 0 v), 0, 0) := by
  show mm_E (d + 1) 283 (0, [some (.inr (.inr (some (0, 0)))), some (.inl a1), some (.inr (.inr (some (133, 0)))), none], [], m) _
  refine e_steps 4 (s' := (4, [some (.inr (.inr (some (0, 0)))), some (.inl a1), some (.inr (.inr (some (133, 0)))), none], [.inl a1, .inr (.inr (some (0, 0))), .inl 0, .inr (.inr (some (133, 0)))], m)) rfl ?_
  refine e_call0 (v := some (.inl v)) rfl hX ?_
  refine e_steps 1 (s' := (8, [some (.inr (.inr (some (0, 0)))), some (.inl a1), some (.inr (.inr (some (133, 0)))), none], [.inr (.inl v), .inl 0, .inr (.inr (some (133, 0)))], m1)) rfl ?_
  refine e_steps 3 (s' := (16, [some (.inr (.inr (some (0, 0)))), some (.inl a1), some (.inr (.inr (some (133, 0)))), none], [.inl 0], (mm_w m1 133 0 0 v))) rfl ?_
  exact e_ret rfl rfl
set_option maxRecDepth 100000 in
theorem w_283_1 {d : Nat} {a1 : Int32} {m m1 : mm_M} (hX : mm_X d 30 [.inr (.inr (some (0, 0))), .inl a1] m (.inr 1, m1, 1, 6)) : mm_X (d + 1) 283 [.inr (.inr (some (0, 0))), .inl a1, .inr (.inr (some (133, 0)))] m (.inl (some (.inl 1)), m1, 1, 6) := by
  show mm_E (d + 1) 283 (0, [some (.inr (.inr (some (0, 0)))), some (.inl a1), some (.inr (.inr (some (133, 0)))), none], [], m) _
  refine e_steps 4 (s' := (4, [some (.inr (.inr (some (0, 0)))), some (.inl a1), some (.inr (.inr (some (133, 0)))), none], [.inl a1, .inr (.inr (some (0, 0))), .inl 0, .inr (.inr (some (133, 0)))], m)) rfl ?_
  refine e_callh (hp := 12) (c := 1) (z := 6) (r := (.inl (some (.inl 1)), m1, 0, 0)) rfl rfl hX ?_
  refine e_steps 2 (s' := (14, [some (.inr (.inr (some (0, 0)))), some (.inl a1), some (.inr (.inr (some (133, 0)))), some (.inr (.inr (some (999, 0))))], [.inl 1], m1)) rfl ?_
  exact e_ret rfl rfl
-- GlassThreadsLaw.worst
set_option maxRecDepth 100000 in
theorem w_284 {d : Nat} {a1 : Int32} {m m1 : mm_M} {v : Int32} (hX : mm_X d 32 [.inr (.inr (some (0, 0))), .inl a1] m (.inl (some (.inl v)), m1, 0, 0)) : mm_X (d + 1) 284 [.inr (.inr (some (0, 0))), .inl a1, .inr (.inr (some (133, 0)))] m (.inl (some (.inl 0)), (mm_w m1 133 0 0 v), 0, 0) := by
  show mm_E (d + 1) 284 (0, [some (.inr (.inr (some (0, 0)))), some (.inl a1), some (.inr (.inr (some (133, 0)))), none], [], m) _
  refine e_steps 4 (s' := (4, [some (.inr (.inr (some (0, 0)))), some (.inl a1), some (.inr (.inr (some (133, 0)))), none], [.inl a1, .inr (.inr (some (0, 0))), .inl 0, .inr (.inr (some (133, 0)))], m)) rfl ?_
  refine e_call0 (v := some (.inl v)) rfl hX ?_
  refine e_steps 1 (s' := (8, [some (.inr (.inr (some (0, 0)))), some (.inl a1), some (.inr (.inr (some (133, 0)))), none], [.inr (.inl v), .inl 0, .inr (.inr (some (133, 0)))], m1)) rfl ?_
  refine e_steps 3 (s' := (16, [some (.inr (.inr (some (0, 0)))), some (.inl a1), some (.inr (.inr (some (133, 0)))), none], [.inl 0], (mm_w m1 133 0 0 v))) rfl ?_
  exact e_ret rfl rfl
set_option maxRecDepth 100000 in
theorem w_284_0 {d : Nat} {a1 : Int32} {m m1 : mm_M} (hX : mm_X d 32 [.inr (.inr (some (0, 0))), .inl a1] m (.inr 0, m1, 1, 6)) : mm_X (d + 1) 284 [.inr (.inr (some (0, 0))), .inl a1, .inr (.inr (some (133, 0)))] m (.inl (some (.inl 1)), m1, 1, 6) := by
  show mm_E (d + 1) 284 (0, [some (.inr (.inr (some (0, 0)))), some (.inl a1), some (.inr (.inr (some (133, 0)))), none], [], m) _
  refine e_steps 4 (s' := (4, [some (.inr (.inr (some (0, 0)))), some (.inl a1), some (.inr (.inr (some (133, 0)))), none], [.inl a1, .inr (.inr (some (0, 0))), .inl 0, .inr (.inr (some (133, 0)))], m)) rfl ?_
  refine e_callh (hp := 12) (c := 1) (z := 6) (r := (.inl (some (.inl 1)), m1, 0, 0)) rfl rfl hX ?_
  refine e_steps 2 (s' := (14, [some (.inr (.inr (some (0, 0)))), some (.inl a1), some (.inr (.inr (some (133, 0)))), some (.inr (.inr (some (999, 0))))], [.inl 1], m1)) rfl ?_
  exact e_ret rfl rfl
-- GlassThreadsLaw.write
set_option maxRecDepth 100000 in
theorem w_285 {d : Nat} {a1 a2 a3 : Int32} {m m1 : mm_M} {v : Int32} (hX : mm_X d 34 [.inr (.inr (some (0, 0))), .inl a1, .inl a2, .inl a3] m (.inl (some (.inl v)), m1, 0, 0)) : mm_X (d + 1) 285 [.inr (.inr (some (0, 0))), .inl a1, .inl a2, .inl a3, .inr (.inr (some (133, 0)))] m (.inl (some (.inl 0)), (mm_w m1 133 0 0 v), 0, 0) := by
  show mm_E (d + 1) 285 (0, [some (.inr (.inr (some (0, 0)))), some (.inl a1), some (.inl a2), some (.inl a3), some (.inr (.inr (some (133, 0)))), none], [], m) _
  refine e_steps 6 (s' := (7, [some (.inr (.inr (some (0, 0)))), some (.inl a1), some (.inl a2), some (.inl a3), some (.inr (.inr (some (133, 0)))), none], [.inl a3, .inl a2, .inl a1, .inr (.inr (some (0, 0))), .inl 0, .inr (.inr (some (133, 0)))], m)) rfl ?_
  refine e_call0 (v := some (.inl v)) rfl hX ?_
  refine e_steps 1 (s' := (11, [some (.inr (.inr (some (0, 0)))), some (.inl a1), some (.inl a2), some (.inl a3), some (.inr (.inr (some (133, 0)))), none], [.inr (.inl v), .inl 0, .inr (.inr (some (133, 0)))], m1)) rfl ?_
  refine e_steps 3 (s' := (20, [some (.inr (.inr (some (0, 0)))), some (.inl a1), some (.inl a2), some (.inl a3), some (.inr (.inr (some (133, 0)))), none], [.inl 0], (mm_w m1 133 0 0 v))) rfl ?_
  exact e_ret rfl rfl
set_option maxRecDepth 100000 in
theorem w_285_1 {d : Nat} {a1 a2 a3 : Int32} {m m1 : mm_M} (hX : mm_X d 34 [.inr (.inr (some (0, 0))), .inl a1, .inl a2, .inl a3] m (.inr 1, m1, 1, 6)) : mm_X (d + 1) 285 [.inr (.inr (some (0, 0))), .inl a1, .inl a2, .inl a3, .inr (.inr (some (133, 0)))] m (.inl (some (.inl 1)), m1, 1, 6) := by
  show mm_E (d + 1) 285 (0, [some (.inr (.inr (some (0, 0)))), some (.inl a1), some (.inl a2), some (.inl a3), some (.inr (.inr (some (133, 0)))), none], [], m) _
  refine e_steps 6 (s' := (7, [some (.inr (.inr (some (0, 0)))), some (.inl a1), some (.inl a2), some (.inl a3), some (.inr (.inr (some (133, 0)))), none], [.inl a3, .inl a2, .inl a1, .inr (.inr (some (0, 0))), .inl 0, .inr (.inr (some (133, 0)))], m)) rfl ?_
  refine e_callh (hp := 15) (c := 1) (z := 6) (r := (.inl (some (.inl 1)), m1, 0, 0)) rfl rfl hX ?_
  refine e_steps 2 (s' := (18, [some (.inr (.inr (some (0, 0)))), some (.inl a1), some (.inl a2), some (.inl a3), some (.inr (.inr (some (133, 0)))), some (.inr (.inr (some (999, 0))))], [.inl 1], m1)) rfl ?_
  exact e_ret rfl rfl
-- GlassThreadsLaw.copy
set_option maxRecDepth 100000 in
theorem w_286 {d : Nat} {a1 a2 a3 a4 a5 : Int32} {m m1 : mm_M} {v : Int32} (hX : mm_X d 35 [.inr (.inr (some (0, 0))), .inl a1, .inl a2, .inl a3, .inl a4, .inl a5] m (.inl (some (.inl v)), m1, 0, 0)) : mm_X (d + 1) 286 [.inr (.inr (some (0, 0))), .inl a1, .inl a2, .inl a3, .inl a4, .inl a5, .inr (.inr (some (133, 0)))] m (.inl (some (.inl 0)), (mm_w m1 133 0 0 v), 0, 0) := by
  show mm_E (d + 1) 286 (0, [some (.inr (.inr (some (0, 0)))), some (.inl a1), some (.inl a2), some (.inl a3), some (.inl a4), some (.inl a5), some (.inr (.inr (some (133, 0)))), none], [], m) _
  refine e_steps 8 (s' := (11, [some (.inr (.inr (some (0, 0)))), some (.inl a1), some (.inl a2), some (.inl a3), some (.inl a4), some (.inl a5), some (.inr (.inr (some (133, 0)))), none], [.inl a5, .inl a4, .inl a3, .inl a2, .inl a1, .inr (.inr (some (0, 0))), .inl 0, .inr (.inr (some (133, 0)))], m)) rfl ?_
  refine e_call0 (v := some (.inl v)) rfl hX ?_
  refine e_steps 1 (s' := (15, [some (.inr (.inr (some (0, 0)))), some (.inl a1), some (.inl a2), some (.inl a3), some (.inl a4), some (.inl a5), some (.inr (.inr (some (133, 0)))), none], [.inr (.inl v), .inl 0, .inr (.inr (some (133, 0)))], m1)) rfl ?_
  refine e_steps 3 (s' := (24, [some (.inr (.inr (some (0, 0)))), some (.inl a1), some (.inl a2), some (.inl a3), some (.inl a4), some (.inl a5), some (.inr (.inr (some (133, 0)))), none], [.inl 0], (mm_w m1 133 0 0 v))) rfl ?_
  exact e_ret rfl rfl
set_option maxRecDepth 100000 in
theorem w_286_1 {d : Nat} {a1 a2 a3 a4 a5 : Int32} {m m1 : mm_M} (hX : mm_X d 35 [.inr (.inr (some (0, 0))), .inl a1, .inl a2, .inl a3, .inl a4, .inl a5] m (.inr 1, m1, 1, 6)) : mm_X (d + 1) 286 [.inr (.inr (some (0, 0))), .inl a1, .inl a2, .inl a3, .inl a4, .inl a5, .inr (.inr (some (133, 0)))] m (.inl (some (.inl 1)), m1, 1, 6) := by
  show mm_E (d + 1) 286 (0, [some (.inr (.inr (some (0, 0)))), some (.inl a1), some (.inl a2), some (.inl a3), some (.inl a4), some (.inl a5), some (.inr (.inr (some (133, 0)))), none], [], m) _
  refine e_steps 8 (s' := (11, [some (.inr (.inr (some (0, 0)))), some (.inl a1), some (.inl a2), some (.inl a3), some (.inl a4), some (.inl a5), some (.inr (.inr (some (133, 0)))), none], [.inl a5, .inl a4, .inl a3, .inl a2, .inl a1, .inr (.inr (some (0, 0))), .inl 0, .inr (.inr (some (133, 0)))], m)) rfl ?_
  refine e_callh (hp := 19) (c := 1) (z := 6) (r := (.inl (some (.inl 1)), m1, 0, 0)) rfl rfl hX ?_
  refine e_steps 2 (s' := (22, [some (.inr (.inr (some (0, 0)))), some (.inl a1), some (.inl a2), some (.inl a3), some (.inl a4), some (.inl a5), some (.inr (.inr (some (133, 0)))), some (.inr (.inr (some (999, 0))))], [.inl 1], m1)) rfl ?_
  exact e_ret rfl rfl
-- GlassThreadsLaw.rowOf
set_option maxRecDepth 100000 in
theorem w_287 {d : Nat} {a1 a2 a3 : Int32} {m m1 : mm_M} {v : Int32} (hX : mm_X d 36 [.inr (.inr (some (0, 0))), .inl a1, .inl a2, .inl a3] m (.inl (some (.inl v)), m1, 0, 0)) : mm_X (d + 1) 287 [.inr (.inr (some (0, 0))), .inl a1, .inl a2, .inl a3, .inr (.inr (some (133, 0)))] m (.inl (some (.inl 0)), (mm_w m1 133 0 0 v), 0, 0) := by
  show mm_E (d + 1) 287 (0, [some (.inr (.inr (some (0, 0)))), some (.inl a1), some (.inl a2), some (.inl a3), some (.inr (.inr (some (133, 0)))), none], [], m) _
  refine e_steps 6 (s' := (7, [some (.inr (.inr (some (0, 0)))), some (.inl a1), some (.inl a2), some (.inl a3), some (.inr (.inr (some (133, 0)))), none], [.inl a3, .inl a2, .inl a1, .inr (.inr (some (0, 0))), .inl 0, .inr (.inr (some (133, 0)))], m)) rfl ?_
  refine e_call0 (v := some (.inl v)) rfl hX ?_
  refine e_steps 1 (s' := (11, [some (.inr (.inr (some (0, 0)))), some (.inl a1), some (.inl a2), some (.inl a3), some (.inr (.inr (some (133, 0)))), none], [.inr (.inl v), .inl 0, .inr (.inr (some (133, 0)))], m1)) rfl ?_
  refine e_steps 3 (s' := (24, [some (.inr (.inr (some (0, 0)))), some (.inl a1), some (.inl a2), some (.inl a3), some (.inr (.inr (some (133, 0)))), none], [.inl 0], (mm_w m1 133 0 0 v))) rfl ?_
  exact e_ret rfl rfl
set_option maxRecDepth 100000 in
theorem w_287_1 {d : Nat} {a1 a2 a3 : Int32} {m m1 : mm_M} (hX : mm_X d 36 [.inr (.inr (some (0, 0))), .inl a1, .inl a2, .inl a3] m (.inr 1, m1, 1, 6)) : mm_X (d + 1) 287 [.inr (.inr (some (0, 0))), .inl a1, .inl a2, .inl a3, .inr (.inr (some (133, 0)))] m (.inl (some (.inl 1)), m1, 1, 6) := by
  show mm_E (d + 1) 287 (0, [some (.inr (.inr (some (0, 0)))), some (.inl a1), some (.inl a2), some (.inl a3), some (.inr (.inr (some (133, 0)))), none], [], m) _
  refine e_steps 6 (s' := (7, [some (.inr (.inr (some (0, 0)))), some (.inl a1), some (.inl a2), some (.inl a3), some (.inr (.inr (some (133, 0)))), none], [.inl a3, .inl a2, .inl a1, .inr (.inr (some (0, 0))), .inl 0, .inr (.inr (some (133, 0)))], m)) rfl ?_
  refine e_callh (hp := 15) (c := 1) (z := 6) (r := (.inl (some (.inl 1)), m1, 0, 0)) rfl rfl hX ?_
  refine e_steps 2 (s' := (18, [some (.inr (.inr (some (0, 0)))), some (.inl a1), some (.inl a2), some (.inl a3), some (.inr (.inr (some (133, 0)))), some (.inr (.inr (some (999, 0))))], [.inl 1], m1)) rfl ?_
  exact e_ret rfl rfl
set_option maxRecDepth 100000 in
theorem w_287_0 {d : Nat} {a1 a2 a3 : Int32} {m m1 : mm_M} (hX : mm_X d 36 [.inr (.inr (some (0, 0))), .inl a1, .inl a2, .inl a3] m (.inr 0, m1, 1, 6)) : mm_X (d + 1) 287 [.inr (.inr (some (0, 0))), .inl a1, .inl a2, .inl a3, .inr (.inr (some (133, 0)))] m (.inl (some (.inl 2)), m1, 1, 6) := by
  show mm_E (d + 1) 287 (0, [some (.inr (.inr (some (0, 0)))), some (.inl a1), some (.inl a2), some (.inl a3), some (.inr (.inr (some (133, 0)))), none], [], m) _
  refine e_steps 6 (s' := (7, [some (.inr (.inr (some (0, 0)))), some (.inl a1), some (.inl a2), some (.inl a3), some (.inr (.inr (some (133, 0)))), none], [.inl a3, .inl a2, .inl a1, .inr (.inr (some (0, 0))), .inl 0, .inr (.inr (some (133, 0)))], m)) rfl ?_
  refine e_callh (hp := 19) (c := 1) (z := 6) (r := (.inl (some (.inl 2)), m1, 0, 0)) rfl rfl hX ?_
  refine e_steps 2 (s' := (22, [some (.inr (.inr (some (0, 0)))), some (.inl a1), some (.inl a2), some (.inl a3), some (.inr (.inr (some (133, 0)))), some (.inr (.inr (some (999, 0))))], [.inl 2], m1)) rfl ?_
  exact e_ret rfl rfl
-- GlassThreadsLaw.count
set_option maxRecDepth 100000 in
theorem w_288 {d : Nat} {a1 : Int32} {m m1 : mm_M} {v : Int32} (hX : mm_X d 37 [.inr (.inr (some (0, 0))), .inl a1] m (.inl (some (.inl v)), m1, 0, 0)) : mm_X (d + 1) 288 [.inr (.inr (some (0, 0))), .inl a1, .inr (.inr (some (133, 0)))] m (.inl (some (.inl 0)), (mm_w m1 133 0 0 v), 0, 0) := by
  show mm_E (d + 1) 288 (0, [some (.inr (.inr (some (0, 0)))), some (.inl a1), some (.inr (.inr (some (133, 0)))), none], [], m) _
  refine e_steps 4 (s' := (4, [some (.inr (.inr (some (0, 0)))), some (.inl a1), some (.inr (.inr (some (133, 0)))), none], [.inl a1, .inr (.inr (some (0, 0))), .inl 0, .inr (.inr (some (133, 0)))], m)) rfl ?_
  refine e_call0 (v := some (.inl v)) rfl hX ?_
  refine e_steps 1 (s' := (8, [some (.inr (.inr (some (0, 0)))), some (.inl a1), some (.inr (.inr (some (133, 0)))), none], [.inr (.inl v), .inl 0, .inr (.inr (some (133, 0)))], m1)) rfl ?_
  refine e_steps 3 (s' := (16, [some (.inr (.inr (some (0, 0)))), some (.inl a1), some (.inr (.inr (some (133, 0)))), none], [.inl 0], (mm_w m1 133 0 0 v))) rfl ?_
  exact e_ret rfl rfl
set_option maxRecDepth 100000 in
theorem w_288_1 {d : Nat} {a1 : Int32} {m m1 : mm_M} (hX : mm_X d 37 [.inr (.inr (some (0, 0))), .inl a1] m (.inr 1, m1, 1, 6)) : mm_X (d + 1) 288 [.inr (.inr (some (0, 0))), .inl a1, .inr (.inr (some (133, 0)))] m (.inl (some (.inl 1)), m1, 1, 6) := by
  show mm_E (d + 1) 288 (0, [some (.inr (.inr (some (0, 0)))), some (.inl a1), some (.inr (.inr (some (133, 0)))), none], [], m) _
  refine e_steps 4 (s' := (4, [some (.inr (.inr (some (0, 0)))), some (.inl a1), some (.inr (.inr (some (133, 0)))), none], [.inl a1, .inr (.inr (some (0, 0))), .inl 0, .inr (.inr (some (133, 0)))], m)) rfl ?_
  refine e_callh (hp := 12) (c := 1) (z := 6) (r := (.inl (some (.inl 1)), m1, 0, 0)) rfl rfl hX ?_
  refine e_steps 2 (s' := (14, [some (.inr (.inr (some (0, 0)))), some (.inl a1), some (.inr (.inr (some (133, 0)))), some (.inr (.inr (some (999, 0))))], [.inl 1], m1)) rfl ?_
  exact e_ret rfl rfl
