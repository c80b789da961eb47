/-! the little machine's memory, as cells of the heap -/
def mm_fv (ad : Nat → Nat → Nat) (m : mm_M) (g i k : Nat) (f : mm_F) : Value := match f with
  | .inl 0 => .int (m g i k)
  | .inl 1 => .int (m g i k)
  | .inl (h + 2) => if m g i k = -1 then .null else .ref (ad h (m g i k).toNatClampNeg)
  | .inr (h, none) => .ref (ad h i)
  | .inr (h, some j) => .ref (ad h j)
def mm_fl (ad : Nat → Nat → Nat) (m : mm_M) (g i : Nat) : Nat → List mm_F → List Value
  | _, [] => []
  | k, f :: fs => mm_fv ad m g i k f :: mm_fl ad m g i (k + 1) fs
theorem mm_fl_get (ad : Nat → Nat → Nat) (m : mm_M) (g i : Nat) : ∀ (fs : List mm_F) (k j : Nat), (mm_fl ad m g i k fs)[j]? = fs[j]?.map (mm_fv ad m g i (k + j))
  | [], k, j => by simp [mm_fl]
  | f :: fs, k, 0 => by simp [mm_fl]
  | f :: fs, k, j + 1 => by
    show (mm_fl ad m g i (k + 1) fs)[j]? = fs[j]?.map _
    rw [mm_fl_get ad m g i fs (k + 1) j, show k + 1 + j = k + (j + 1) by omega]
theorem mm_fl_len (ad : Nat → Nat → Nat) (m : mm_M) (g i : Nat) : ∀ (fs : List mm_F) (k : Nat), (mm_fl ad m g i k fs).length = fs.length
  | [], _ => rfl
  | _ :: fs, k => by simp [mm_fl, mm_fl_len ad m g i fs (k + 1)]
def mm_ent (ad : Nat → Nat → Nat) (cy : Nat → ClassId) (m : mm_M) (g i : Nat) : va_E := match mm_ob g with
  | some (c, fs) => .inr (c, mm_fl ad m g i 0 fs)
  | none => match mm_ar g with
    | some (3, n, _) => .inl (cy 3, n, .inr (.inl (fun j => (m g i j).toInt64)))
    | some (ty, n, _) => .inl (cy ty, n, .inl (m g i))
    | none => match mm_ra g with
      | some (n, h, b) => .inl (cy (mm_rk g), n, .inr (.inr (.inr (.inr (fun j => some (ad h (b + j)))))))
      | none => .inr (0, [])
def mm_ws (ad : Nat → Nat → Nat) (cy : Nat → ClassId) (m : mm_M) : va_W := mm_cl.map (fun q => (ad q.1 q.2, mm_ent ad cy m q.1 q.2))
abbrev mm_tys (cy : Nat → ClassId) : List (ClassId × FieldType) := [(cy 0, .int), (cy 1, .byte), (cy 2, .boolean), (cy 3, .long), (cy 4, .object "GlassThreads$Strand"), (cy 5, .object "GlassThreads$Sheet"), (cy 6, .object "java/lang/String"), (cy 7, .array .int)]
def mm_nd : List (Nat × Nat) → Bool
  | [] => true
  | q :: r => !(r.any (fun p => Nat.beq p.1 q.1 && Nat.beq p.2 q.2)) && mm_nd r
theorem mm_nd_inj : ∀ (l : List (Nat × Nat)), mm_nd l = true → ∀ (i j : Nat) (a : Nat × Nat), l[i]? = some a → l[j]? = some a → i = j
  | [], _, i, j, a, h, _ => by simp at h
  | q :: r, hn, i, j, a, h1, h2 => by
    simp only [mm_nd, Bool.and_eq_true, Bool.not_eq_true'] at hn
    have key : ∀ k : Nat, r[k]? = some q → False := fun k hk => by
      have h3 := List.any_eq_false.mp hn.1 q (List.mem_of_getElem? hk)
      simp at h3
    cases i with
    | zero =>
      cases j with
      | zero => rfl
      | succ j =>
        rw [List.getElem?_cons_zero] at h1
        rw [List.getElem?_cons_succ] at h2
        cases h1
        exact (key j h2).elim
    | succ i =>
      rw [List.getElem?_cons_succ] at h1
      cases j with
      | zero =>
        rw [List.getElem?_cons_zero] at h2
        cases h2
        exact (key i h1).elim
      | succ j =>
        rw [List.getElem?_cons_succ] at h2
        rw [mm_nd_inj r hn.2 i j a h1 h2]
theorem mm_cl_nd : mm_nd mm_cl = true := by decide +kernel
theorem mm_ws_at {ad : Nat → Nat → Nat} {cy : Nat → ClassId} {m : mm_M} {p g i : Nat} (h : mm_cl[p]? = some (g, i)) : (mm_ws ad cy m)[p]? = some (ad g i, mm_ent ad cy m g i) := by
  unfold mm_ws
  rw [List.getElem?_map, h]
  rfl
theorem mm_pos {g i : Nat} (h : (g, i) ∈ mm_cl) : ∃ p : Nat, mm_cl[p]? = some (g, i) := List.getElem?_of_mem h
/-- a row anew: the other cells stay -/
theorem mm_ent_wa {ad : Nat → Nat → Nat} {cy : Nat → ClassId} {m : mm_M} {g i g' i' : Nat} {f : Nat → Int32} (hne : ¬ (g' = g ∧ i' = i)) : mm_ent ad cy (mm_wa m g i f) g' i' = mm_ent ad cy m g' i' := by
  have hrow : mm_wa m g i f g' i' = m g' i' := if_neg hne
  have hfl : ∀ (fs : List mm_F) (k : Nat), mm_fl ad (mm_wa m g i f) g' i' k fs = mm_fl ad m g' i' k fs := by
    intro fs
    induction fs with
    | nil => intro k; rfl
    | cons a fs ih =>
      intro k
      show mm_fv ad (mm_wa m g i f) g' i' k a :: _ = mm_fv ad m g' i' k a :: _
      rw [ih]
      congr 1
      unfold mm_fv
      rw [hrow]
  unfold mm_ent
  rw [hrow]
  simp only [hfl]
theorem mm_ws_set {ad : Nat → Nat → Nat} {cy : Nat → ClassId} {m m' : mm_M} {p g i : Nat} {e : va_E} (h : mm_cl[p]? = some (g, i)) (he : mm_ent ad cy m' g i = e) (ho : ∀ g' i', ¬ (g' = g ∧ i' = i) → mm_ent ad cy m' g' i' = mm_ent ad cy m g' i') : (mm_ws ad cy m).set p (ad g i, e) = mm_ws ad cy m' := by
  apply List.ext_getElem?
  intro q
  by_cases hq : q = p
  · subst hq
    have hl : q < (mm_ws ad cy m).length := by
      unfold mm_ws
      rw [List.length_map]
      exact (List.getElem?_eq_some_iff.mp h).1
    rw [List.getElem?_set_self hl, mm_ws_at h, he]
  · rw [List.getElem?_set_ne (Ne.symm hq)]
    unfold mm_ws
    rw [List.getElem?_map, List.getElem?_map]
    cases hc : mm_cl[q]? with
    | none => rfl
    | some a =>
      obtain ⟨g', i'⟩ := a
      show some (ad g' i', mm_ent ad cy m g' i') = some (ad g' i', mm_ent ad cy m' g' i')
      rw [ho g' i' (fun z => hq (mm_nd_inj mm_cl mm_cl_nd q p (g, i) (by rw [hc, z.1, z.2]) h))]
/-- what a value stands for -/
def mm_vld (g i : Nat) : Prop := (g, i) ∈ mm_cl ∨ (g = mm_gS ∧ i < mm_ns) ∨ (g = mm_gX ∧ i = 0)
def mm_vr (ad : Nat → Nat → Nat) (v : mm_V) (w : Value) : Prop := match v with
  | .inl x => w = .int x
  | .inr (.inl x) => w = .long x.toInt64
  | .inr (.inr none) => w = .null
  | .inr (.inr (some (g, i))) => if g = 999 then ∃ q, w = .ref q else mm_vld g i ∧ w = .ref (ad g i)
def mm_sr (ad : Nat → Nat → Nat) : List mm_V → List Value → Prop
  | [], [] => True
  | v :: st, w :: ws => mm_vr ad v w ∧ mm_sr ad st ws
  | _, _ => False
def mm_nl (v : mm_V) : Prop := match v with
  | .inr (.inl _) => False
  | _ => True
def mm_lr (ad : Nat → Nat → Nat) (ls : Array Slot) (nL : Nat) (L : List (Option mm_V)) : Prop := ls.size = nL ∧ lv_wf ls ∧ L.length = nL ∧ ∀ (k : Nat) (v : mm_V), L[k]? = some (some v) → mm_nl v ∧ ∃ w, ls[k]? = some (.val w) ∧ mm_vr ad v w
/-- references that may change lead to cells of ours -/
def mm_cv (m : mm_M) : Prop := ∀ (g c k h i : Nat) (fs : List mm_F), mm_ob g = some (c, fs) → fs[k]? = some (.inl (h + 2)) → (g, i) ∈ mm_cl → m g i k = -1 ∨ (0 ≤ m g i k ∧ (h, (m g i k).toNatClampNeg) ∈ mm_cl)
/-- the script as the memory has it -/
def mm_sv (xs : Nat → Int32) (n : Nat) (m : mm_M) : Prop := (∀ j, j < n → m mm_gX 0 j = xs j) ∧ m mm_gX 1 0 = Int32.ofNat n
theorem mm_cat {ad : Nat → Nat → Nat} {v : mm_V} {w : Value} (h : mm_vr ad v w) (hn : mm_nl v) : w.category = 1 := by
  rcases v with x | x | _ | ⟨g, i⟩
  · cases h; rfl
  · exact hn.elim
  · cases h; rfl
  · unfold mm_vr at h
    dsimp only at h
    split at h
    · obtain ⟨q, rfl⟩ := h; rfl
    · rw [h.2]; rfl
