/-! fields -/
def mm_has (g i : Nat) : Bool := mm_cl.any (fun q => Nat.beq q.1 g && Nat.beq q.2 i)
theorem mm_has_mem {g i : Nat} (h : mm_has g i = true) : (g, i) ∈ mm_cl := by
  obtain ⟨q, h1, h2⟩ := List.any_eq_true.mp h
  simp only [Bool.and_eq_true] at h2
  obtain ⟨a, b⟩ := q
  have e1 : a = g := Nat.eq_of_beq_eq_true h2.1
  have e2 : b = i := Nat.eq_of_beq_eq_true h2.2
  subst e1; subst e2
  exact h1
/-- the cells that stay, from cells of ours, are ours -/
def mm_close : Bool := mm_cl.all (fun q => match mm_ob q.1 with
  | some (_, fs) => fs.all (fun f => match f with
    | .inr (h, none) => mm_has h q.2
    | .inr (h, some j) => mm_has h j
    | _ => true)
  | none => true)
theorem mm_close_ok : mm_close = true := by decide +kernel
theorem mm_closed {g i c y h : Nat} {o : Option Nat} {fs : List mm_F} (hg : (g, i) ∈ mm_cl) (hob : mm_ob g = some (c, fs)) (hf : fs[y]? = some (.inr (h, o))) : (h, o.getD i) ∈ mm_cl := by
  have h1 := List.all_eq_true.mp mm_close_ok (g, i) hg
  dsimp only at h1
  rw [hob] at h1
  dsimp only at h1
  have h2 := List.all_eq_true.mp h1 _ (List.mem_of_getElem? hf)
  cases o with
  | none => exact mm_has_mem h2
  | some j => exact mm_has_mem h2
/-- groups of objects hold cells of ours alone -/
theorem mm_vld_ob {g i c : Nat} {fs : List mm_F} (h : mm_vld g i) (hob : mm_ob g = some (c, fs)) : (g, i) ∈ mm_cl := by
  rcases h with h | ⟨h, -⟩ | ⟨h, -⟩
  · exact h
  · subst h; cases hob
  · subst h; cases hob
/-- a link to a field: of the class, or of a nest mate -/
def mm_flk (o idx ci y : Nat) : Prop := ∃ (C : String) (T : u_T) (N : Nat), vwCl[ci]? = some (C, T, N) ∧ y < N ∧ (T y).1 = C ∧
  (Cond.fieldLink (mm_rn o) idx C (T y).2.1 (T y).2.2.1 ∈ lw_tbl ∨ ∃ host, Cond.fieldLinkNest (mm_rn o) idx C (T y).2.1 (T y).2.2.1 host ∈ lw_tbl)
def mm_tsG : List Cond := lw_tbl.filter goodWord
/-- what is told of every class -/
def mm_clf (ci : Nat) : Prop := ∃ (C : String) (T : u_T) (N : Nat) (ty0 : Nat → FieldType), vwCl[ci]? = some (C, T, N) ∧ (∀ j, j < N → parseFieldDescriptor (T j).2.2.1 = some (ty0 j)) ∧ (∀ a, a < N → ∀ b, b < N → a ≠ b → (T a).2.1 ≠ (T b).2.1) ∧ ∀ w ∈ u_ws C T N, w ∈ mm_tsG
section MMF
variable {p : Program} {l : Launch} {e : Env} {R : Room} {s : State} {mid : MethodId} {args : Array Value} {below : List Frame} {meth : Method} {c : Code} {Q : State → Prop} {D : va_G} {ad : Nat → Nat → Nat} {cy : Nat → ClassId} {A : Nat → Prop} {xs : Nat → Int32} {xn : Nat} {mc ms : Nat} {k : Nat} {kk nn : Nat} {pc : Nat} {L : List (Option mm_V)} {st : List mm_V} {m : mm_M}
theorem mm_tsG_ok (C : mm_Cx p s mid args meth c D ad cy A xs xn k) : ∀ w ∈ mm_tsG, w.before args s = true := fun w hw => C.2.2.2.2.1 w (List.mem_filter.mp hw).1 (List.mem_filter.mp hw).2
theorem mm_vr_own {g i : Nat} {w : Value} (hg : ¬ g = 999) (h : mm_vr ad (.inr (.inr (some (g, i)))) w) : mm_vld g i ∧ w = .ref (ad g i) := by
  unfold mm_vr at h
  dsimp only at h
  rw [if_neg hg] at h
  exact h
theorem mm_vr_mk {g i : Nat} (hg : (g, i) ∈ mm_cl) : mm_vr ad (.inr (.inr (some (g, i)))) (.ref (ad g i)) := by
  unfold mm_vr
  dsimp only
  split
  · exact ⟨_, rfl⟩
  · exact ⟨Or.inl hg, rfl⟩
theorem mm_ob999 {g : Nat} {x : Nat × List mm_F} (h : mm_ob g = some x) : ¬ g = 999 := fun z => by subst z; cases h
/-- a field is read -/
theorem s_getfield {idx g i ci y pc' : Nat} {fs : List mm_F} {f : mm_F} {L' : List (Option mm_V)} {st' : List mm_V} {m' : mm_M} (C : mm_Cx p s mid args meth c D ad cy A xs xn k) (hd : decode (mm_by k) pc = .ok (.getfield idx, 3)) (hob : mm_ob g = some (ci, fs)) (hf : fs[y]? = some f) (hlk : mm_flk (mm_mt k).1 idx ci y) (hcl : mm_clf ci) (ha : mm_getf (pc + 3) L st m g i y f = some (.inl (pc', L', st', m')))
    (hG : mm_G p l e R s mid args below meth c Q D ad cy A xs xn mc ms k kk nn pc' L' st' m') : mm_G p l e R s mid args below meth c Q D ad cy A xs xn mc ms k kk nn pc L (.inr (.inr (some (g, i))) :: st) m := by
  intro H locs cells slots ls stk hP hcv hsv hS hl hs hc1 hc2
  match stk, hs with
  | w :: stk, ⟨h1, hs⟩ =>
    obtain ⟨hv, rfl⟩ := mm_vr_own (mm_ob999 hob) h1
    have hmem := mm_vld_ob hv hob
    obtain ⟨q, hq⟩ := mm_pos hmem
    have hat := mm_ws_at (ad := ad) (cy := cy) (m := m) hq
    have hen : mm_ent ad cy m g i = .inr (ci, mm_fl ad m g i 0 fs) := by unfold mm_ent; rw [hob]
    rw [hen] at hat
    obtain ⟨Cn, T, N, hc, hy, hC, hlink⟩ := hlk
    obtain ⟨C2, T2, N2, ty0, hc9, hty, hnm, hin⟩ := hcl
    have e9 : (C2, T2, N2) = (Cn, T, N) := Option.some.inj (hc9.symm.trans hc)
    cases e9
    have hval : (mm_fl ad m g i 0 fs)[y]? = some (mm_fv ad m g i y f) := by
      rw [mm_fl_get, hf, Nat.zero_add]; rfl
    have key : W p l e R s mid args below meth c H locs cells slots Q (F0 mid (pc + 3) ls (mm_fv ad m g i y f :: stk)) := by
      unfold mm_getf at ha
      split at ha
      · cases ha
        exact hG H locs cells slots ls _ hP hcv hsv hS hl ⟨rfl, hs⟩ hc1 hc2
      · cases ha
        exact hG H locs cells slots ls _ hP hcv hsv hS hl ⟨rfl, hs⟩ hc1 hc2
      · rename_i h
        split at ha
        · rename_i hz
          cases ha
          refine hG H locs cells slots ls _ hP hcv hsv hS hl ⟨?_, hs⟩ hc1 hc2
          show mm_fv ad m g i y (.inl (h + 2)) = .null
          exact if_pos hz
        · rename_i hz
          cases ha
          refine hG H locs cells slots ls _ hP hcv hsv hS hl ⟨?_, hs⟩ hc1 hc2
          have e8 : mm_fv ad m g i y (.inl (h + 2)) = .ref (ad h (m g i y).toNatClampNeg) := if_neg hz
          rw [e8]
          rcases hcv g ci y h i fs hob hf hmem with h8 | h8
          · exact absurd h8 hz
          · exact mm_vr_mk h8.2
      · cases ha
        exact hG H locs cells slots ls _ hP hcv hsv hS hl ⟨mm_vr_mk (mm_closed hmem hob hf), hs⟩ hc1 hc2
      · cases ha
        exact hG H locs cells slots ls _ hP hcv hsv hS hl ⟨mm_vr_mk (mm_closed hmem hob hf), hs⟩ hc1 hc2
    rcases hlink with hlink | ⟨host, hlink⟩
    · exact va_get C.1 C.2.1 (mm_tsG_ok C) hin C.2.2.2.1 C.2.2.2.2.2.1.1 hP q hat hc y hy (C.2.2.2.2.1 _ hlink rfl) (fun x hx => by rw [← hC]; exact hx) hval hd key
    · exact va_getN C.1 C.2.1 (mm_tsG_ok C) hin C.2.2.2.1 C.2.2.2.2.2.1.1 hP q hat hc y hy (va_Nw.use rfl (C.2.2.2.2.2.1.2.1 _ hlink rfl)) (fun x hx => by rw [← hC]; exact hx) hval hd key
end MMF
