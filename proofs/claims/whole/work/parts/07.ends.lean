/-! runs of the little machine, put together -/
theorem mm_mono : ∀ (n d k : Nat) (s : mm_S) (r : mm_R), mm_run n d k s = some r → mm_run (n + 1) d k s = some r
  | 0, _, _, _, _, h => by simp [mm_run] at h
  | n + 1, d, k, s, r, h => by
    unfold mm_run at h ⊢
    cases hs : mm_step k s with
    | none => rw [hs] at h; simp at h
    | some a =>
      rw [hs] at h
      rcases a with s' | ⟨k', as, pc, L, st, m⟩ | o
      · exact mm_mono n d k s' r h
      · cases d with
        | zero => simp at h
        | succ d =>
          dsimp only at h ⊢
          cases hr : mm_run n d k' (0, mm_L0 k' as, [], m) with
          | none => rw [hr] at h; simp at h
          | some r1 =>
            rw [hr] at h
            rw [mm_mono n d k' _ r1 hr]
            obtain ⟨v | e, m', c, z⟩ := r1
            · dsimp only at h ⊢
              cases hr2 : mm_run n (d + 1) k (pc, L, v.toList ++ st, m') with
              | none => rw [hr2] at h; simp at h
              | some r2 =>
                rw [hr2] at h
                rw [mm_mono n (d + 1) k _ r2 hr2]
                exact h
            · dsimp only at h ⊢
              cases hh : mm_hd s.1 e (mm_hs k) with
              | none => rw [hh] at h; exact h
              | some hp =>
                rw [hh] at h
                dsimp only at h ⊢
                cases hr2 : mm_run n (d + 1) k (hp, L, [.inr (.inr (some (999, 0)))], m') with
                | none => rw [hr2] at h; simp at h
                | some r2 =>
                  rw [hr2] at h
                  rw [mm_mono n (d + 1) k _ r2 hr2]
                  exact h
      · exact h
theorem mm_mono_le {n n' d k : Nat} {s : mm_S} {r : mm_R} (h : mm_run n d k s = some r) (hn : n ≤ n') : mm_run n' d k s = some r := by
  induction hn with
  | refl => exact h
  | step _ ih => exact mm_mono _ _ _ _ _ ih
/-- from this state the method ends so -/
def mm_E (d k : Nat) (s : mm_S) (r : mm_R) : Prop := ∃ n, mm_run n d k s = some r
/-- called with these arguments it ends so -/
def mm_X (d k : Nat) (as : List mm_V) (m : mm_M) (r : mm_R) : Prop := mm_E d k (0, mm_L0 k as, [], m) r
theorem e_step {d k : Nat} {s s' : mm_S} {r : mm_R} (h : mm_step k s = some (.inl s')) (e : mm_E d k s' r) : mm_E d k s r := by
  obtain ⟨n, hn⟩ := e
  exact ⟨n + 1, by unfold mm_run; rw [h]; exact hn⟩
theorem e_ret {d k : Nat} {s : mm_S} {r : mm_R} {o : mm_O} (h : mm_step k s = some (.inr (.inr o))) (hr : (o, s.2.2.2, mm_o1 o, mm_o6 o) = r) : mm_E d k s r :=
  ⟨1, by unfold mm_run; rw [h]; exact congrArg some hr⟩
theorem e_call {d k k' pc c z : Nat} {s : mm_S} {as st : List mm_V} {L : List (Option mm_V)} {m m' : mm_M} {v : Option mm_V} {r : mm_R} (h : mm_step k s = some (.inr (.inl (k', as, (pc, L, st, m))))) (hx : mm_X d k' as m (.inl v, m', c, z)) (e : mm_E (d + 1) k (pc, L, v.toList ++ st, m') r) : mm_E (d + 1) k s (mm_ad c z r) := by
  obtain ⟨n1, h1⟩ := hx
  obtain ⟨n2, h2⟩ := e
  refine ⟨max n1 n2 + 1, ?_⟩
  unfold mm_run
  rw [h]
  dsimp only
  rw [mm_mono_le h1 (Nat.le_max_left n1 n2)]
  dsimp only
  rw [mm_mono_le h2 (Nat.le_max_right n1 n2)]
  rfl
theorem mm_ad0 (r : mm_R) : mm_ad 0 0 r = r := by
  obtain ⟨o, m, c, z⟩ := r
  simp [mm_ad]
/-- a call that returns, and has made nothing -/
theorem e_call0 {d k k' pc : Nat} {s : mm_S} {as st : List mm_V} {L : List (Option mm_V)} {m m' : mm_M} {v : Option mm_V} {r : mm_R} (h : mm_step k s = some (.inr (.inl (k', as, (pc, L, st, m))))) (hx : mm_X d k' as m (.inl v, m', 0, 0)) (e : mm_E (d + 1) k (pc, L, v.toList ++ st, m') r) : mm_E (d + 1) k s r := by
  have h9 := e_call h hx e
  rw [mm_ad0] at h9
  exact h9
/-- a call that throws, not caught here -/
theorem e_callx {d k k' pc x c z : Nat} {s : mm_S} {as st : List mm_V} {L : List (Option mm_V)} {m m' : mm_M} (h : mm_step k s = some (.inr (.inl (k', as, (pc, L, st, m))))) (hh : mm_hd s.1 x (mm_hs k) = none) (hx : mm_X d k' as m (.inr x, m', c, z)) : mm_E (d + 1) k s (.inr x, m', c, z) := by
  obtain ⟨n1, h1⟩ := hx
  refine ⟨n1 + 1, ?_⟩
  unfold mm_run
  rw [h]
  dsimp only
  rw [h1]
  dsimp only
  rw [hh]
/-- a call that throws, caught here -/
theorem e_callh {d k k' pc x c z hp : Nat} {s : mm_S} {as st : List mm_V} {L : List (Option mm_V)} {m m' : mm_M} {r : mm_R} (h : mm_step k s = some (.inr (.inl (k', as, (pc, L, st, m))))) (hh : mm_hd s.1 x (mm_hs k) = some hp) (hx : mm_X d k' as m (.inr x, m', c, z)) (e : mm_E (d + 1) k (hp, L, [.inr (.inr (some (999, 0)))], m') r) : mm_E (d + 1) k s (mm_ad c z r) := by
  obtain ⟨n1, h1⟩ := hx
  obtain ⟨n2, h2⟩ := e
  refine ⟨max n1 n2 + 1, ?_⟩
  unfold mm_run
  rw [h]
  dsimp only
  rw [mm_mono_le h1 (Nat.le_max_left n1 n2)]
  dsimp only
  rw [hh]
  dsimp only
  rw [mm_mono_le h2 (Nat.le_max_right n1 n2)]
  rfl
def mm_steps (k : Nat) : Nat → mm_S → Option mm_S
  | 0, s => some s
  | n + 1, s => match mm_step k s with
    | some (.inl s') => mm_steps k n s'
    | _ => none
theorem e_steps {d k : Nat} (n : Nat) {s s' : mm_S} {r : mm_R} (h : mm_steps k n s = some s') (e : mm_E d k s' r) : mm_E d k s r := by
  induction n generalizing s with
  | zero => cases h; exact e
  | succ n ih =>
    unfold mm_steps at h
    split at h
    · rename_i s2 hs
      exact e_step hs (ih h)
    · cases h
/-- a branch -/
theorem e_if {d k : Nat} {s s1 s2 : mm_S} {r : mm_R} {c : Prop} [Decidable c] {α : Type} {X Y : Option α} {o : α} (h : mm_step k s = if c then some (.inl s1) else some (.inl s2)) (hr : (if c then X else Y) = some o) (h1 : c → X = some o → mm_E d k s1 r) (h2 : ¬ c → Y = some o → mm_E d k s2 r) : mm_E d k s r := by
  by_cases hc : c
  · rw [if_pos hc] at h hr
    exact e_step h (h1 hc hr)
  · rw [if_neg hc] at h hr
    exact e_step h (h2 hc hr)
/-- a test that must hold -/
theorem e_gd {d k : Nat} {s s1 : mm_S} {r : mm_R} {c : Prop} [Decidable c] {α : Type} {X : Option α} {o : α} (h : mm_step k s = if c then some (.inl s1) else none) (hr : (if c then X else none) = some o) (h1 : c → X = some o → mm_E d k s1 r) : mm_E d k s r := by
  by_cases hc : c
  · rw [if_pos hc] at h hr
    exact e_step h (h1 hc hr)
  · rw [if_neg hc] at hr
    cases hr
/-- a test that must not hold -/
theorem e_gn {d k : Nat} {s s1 : mm_S} {r : mm_R} {c : Prop} [Decidable c] {α : Type} {X : Option α} {o : α} (h : mm_step k s = if c then none else some (.inl s1)) (hr : (if c then none else X) = some o) (h1 : ¬ c → X = some o → mm_E d k s1 r) : mm_E d k s r := by
  by_cases hc : c
  · rw [if_pos hc] at hr
    cases hr
  · rw [if_neg hc] at h hr
    exact e_step h (h1 hc hr)
def mm_let {α β : Type} (a : α) (f : α → β) : β := f a
theorem e_let {d k : Nat} {r : mm_R} {α β : Type} {a : α} {B : α → Option β} {o : β} (s : α → mm_S) (hr : mm_let a B = some o) (h : ∀ x, B x = some o → mm_E d k (s x) r) : mm_E d k (s a) r := h a hr
/-- a place where ways meet -/
theorem e_join {α β : Type} {F : α} {B : α → Option β} {o : β} {P : Prop} (J : α → Prop) (hr : mm_let F B = some o) (hF : J F) (h : ∀ k, J k → B k = some o → P) : P := h F hF hr
def mm_b1 {α β : Type} (o : Option α) (f : α → Option β) : Option β := match o with
  | some a => f a
  | none => none
def mm_b2 {α β γ : Type} (o : Option (α × β)) (f : α → β → Option γ) : Option γ := match o with
  | some (a, b) => f a b
  | none => none
/-- a callee that may throw -/
def mm_bx {α β : Type} (o : Option (Nat ⊕ α)) (f : α → Option (Nat ⊕ β)) : Option (Nat ⊕ β) := match o with
  | some (.inr a) => f a
  | some (.inl e) => some (.inl e)
  | none => none
theorem mm_b1_some {α β : Type} {o : Option α} {f : α → Option β} {r : β} (h : mm_b1 o f = some r) : ∃ a, o = some a ∧ f a = some r := by
  cases o with
  | none => cases h
  | some a => exact ⟨a, rfl, h⟩
theorem mm_b2_some {α β γ : Type} {o : Option (α × β)} {f : α → β → Option γ} {r : γ} (h : mm_b2 o f = some r) : ∃ a b, o = some (a, b) ∧ f a b = some r := by
  cases o with
  | none => cases h
  | some p => obtain ⟨a, b⟩ := p; exact ⟨a, b, rfl, h⟩
theorem mm_bx_some {α β : Type} {o : Option (Nat ⊕ α)} {f : α → Option (Nat ⊕ β)} {r : Nat ⊕ β} (h : mm_bx o f = some r) : (∃ e, o = some (.inl e) ∧ r = .inl e) ∨ ∃ a, o = some (.inr a) ∧ f a = some r := by
  cases o with
  | none => cases h
  | some p =>
    rcases p with e | a
    · exact Or.inl ⟨e, rfl, (Option.some.inj h).symm⟩
    · exact Or.inr ⟨a, rfl, h⟩
def mm_loop {σ ρ : Type} (step : σ → Option (σ ⊕ ρ)) : Nat → σ → Option ρ
  | 0, _ => none
  | n + 1, s => match step s with
    | some (.inl s') => mm_loop step n s'
    | some (.inr r) => some r
    | none => none
def mm_fu : Nat := 4294967296
theorem e_loop {d k : Nat} {res : mm_R} {σ ρ : Type} (φ : σ → mm_S) (step : σ → Option (σ ⊕ ρ)) (K : ρ → Prop)
    (hs : ∀ (s : σ) (o : σ ⊕ ρ), step s = some o → (∀ s', o = .inl s' → mm_E d k (φ s') res) → (∀ r, o = .inr r → K r) → mm_E d k (φ s) res) :
    ∀ (n : Nat) (s : σ) (r : ρ), mm_loop step n s = some r → K r → mm_E d k (φ s) res
  | 0, s, r, h, _ => by cases h
  | n + 1, s, r, h, hK => by
    unfold mm_loop at h
    cases ho : step s with
    | none => rw [ho] at h; cases h
    | some o =>
      rw [ho] at h
      rcases o with s' | r'
      · exact hs s _ ho (fun s2 h2 => by cases h2; exact e_loop φ step K hs n s' r h hK) (fun r h2 => by cases h2)
      · cases h
        exact hs s _ ho (fun s2 h2 => by cases h2) (fun r h2 => by cases h2; exact hK)
/-- locals that don't live are forgotten where ways meet -/
theorem e_mask {d k pc : Nat} {L L' : List (Option mm_V)} {st : List mm_V} {m : mm_M} {r : mm_R} (h : (mm_cd k pc).map (fun e => mm_mask e.2.2.2.2.2 L) = (mm_cd k pc).map (fun e => mm_mask e.2.2.2.2.2 L')) (he : mm_E d k (pc, L', st, m) r) : mm_E d k (pc, L, st, m) r := by
  obtain ⟨n, hn⟩ := he
  have hst : mm_step k (pc, L, st, m) = mm_step k (pc, L', st, m) := by
    unfold mm_step
    cases hc : mm_cd k pc with
    | none => rfl
    | some e =>
      rw [hc] at h
      have h9 : mm_mask e.2.2.2.2.2 L = mm_mask e.2.2.2.2.2 L' := Option.some.inj h
      obtain ⟨i, len, v, x, y, q⟩ := e
      show mm_act i len v x y pc (mm_mask q L) st m = _
      rw [show mm_mask q L = mm_mask q L' from h9]
  cases n with
  | zero => cases hn
  | succ n =>
    refine ⟨n + 1, ?_⟩
    unfold mm_run at hn ⊢
    rw [hst]
    exact hn
