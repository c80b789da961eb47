/-! fields and rows are written -/
def mm_mutok : Bool := mm_cl.all (fun q => Nat.blt q.2 100 && (match mm_ob q.1 with
  | some (_, fs) => fs.all (fun f => match f with
    | .inl (h + 2) => (mm_ob h).isSome
    | _ => true)
  | none => true))
theorem mm_mutok_ok : mm_mutok = true := by decide +kernel
theorem mm_small {g i : Nat} (h : (g, i) ∈ mm_cl) : i < 100 := by
  have h1 := List.all_eq_true.mp mm_mutok_ok (g, i) h
  simp only [Bool.and_eq_true] at h1
  exact Nat.le_of_ble_eq_true h1.1
theorem mm_mutob {g i c y h : Nat} {fs : List mm_F} (hg : (g, i) ∈ mm_cl) (hob : mm_ob g = some (c, fs)) (hf : fs[y]? = some (.inl (h + 2))) : ∃ x, mm_ob h = some x := by
  have h1 := List.all_eq_true.mp mm_mutok_ok (g, i) hg
  simp only [Bool.and_eq_true] at h1
  have h2 := h1.2
  rw [hob] at h2
  dsimp only at h2
  have h3 := List.all_eq_true.mp h2 _ (List.mem_of_getElem? hf)
  exact Option.isSome_iff_exists.mp h3
theorem mm_ofNat {i : Nat} (h : i < 100) : (Int32.ofNat i).toNatClampNeg = i ∧ 0 ≤ Int32.ofNat i ∧ ¬ Int32.ofNat i = -1 := by
  have h1 : (Int32.ofNat i).toInt = (i : Int) := Int32.toInt_ofNat_of_lt (by omega)
  refine ⟨?_, ?_, ?_⟩
  · show (Int32.ofNat i).toInt.toNat = i
    rw [h1]; rfl
  · rw [Int32.le_iff_toInt_le, h1]
    show (0 : Int) ≤ _
    omega
  · intro z
    have h2 : (Int32.ofNat i).toInt = (-1 : Int32).toInt := by rw [z]
    rw [h1] at h2
    have h3 : (-1 : Int32).toInt = -1 := by decide
    omega
theorem mm_wa_self (m : mm_M) (g i : Nat) (f : Nat → Int32) : mm_wa m g i f g i = f := if_pos ⟨rfl, rfl⟩
theorem mm_w_self (m : mm_M) (g i y : Nat) (a : Int32) : mm_w m g i y a g i y = a := by
  unfold mm_w
  rw [mm_wa_self]
  exact if_pos rfl
theorem mm_w_ne (m : mm_M) {g i y j : Nat} (a : Int32) (h : ¬ j = y) : mm_w m g i y a g i j = m g i j := by
  unfold mm_w
  rw [mm_wa_self]
  exact if_neg h
theorem mm_wa_ne {m : mm_M} {g i g' i' : Nat} {f : Nat → Int32} (h : ¬ (g' = g ∧ i' = i)) : mm_wa m g i f g' i' = m g' i' := if_neg h
theorem mm_cv_wa {m : mm_M} {g i : Nat} {f : Nat → Int32} (h : mm_cv m) (hg : mm_ob g = none) : mm_cv (mm_wa m g i f) := by
  intro g' c k h' i' fs hob hf hm
  by_cases hz : g' = g ∧ i' = i
  · rw [hz.1, hg] at hob; cases hob
  · rw [mm_wa_ne hz]; exact h g' c k h' i' fs hob hf hm
theorem mm_cv_w {m : mm_M} {g i y ci : Nat} {a : Int32} {fs0 : List mm_F} {f0 : mm_F} (h : mm_cv m) (hob0 : mm_ob g = some (ci, fs0)) (hf0 : fs0[y]? = some f0) (ha : ∀ h', f0 = .inl (h' + 2) → a = -1 ∨ (0 ≤ a ∧ (h', a.toNatClampNeg) ∈ mm_cl)) : mm_cv (mm_w m g i y a) := by
  intro g' c k h' i' fs hob hf hm
  by_cases hz : g' = g ∧ i' = i
  · obtain ⟨rfl, rfl⟩ := hz
    by_cases hk : k = y
    · subst hk
      rw [mm_w_self]
      have e1 : (c, fs) = (ci, fs0) := Option.some.inj (hob.symm.trans hob0)
      cases e1
      exact ha h' (Option.some.inj (hf0.symm.trans hf))
    · rw [mm_w_ne m a hk]
      exact h g' c k h' i' fs hob hf hm
  · have e2 : mm_w m g i y a g' i' = m g' i' := mm_wa_ne hz
    rw [e2]
    exact h g' c k h' i' fs hob hf hm
theorem mm_sv_wa {xs : Nat → Int32} {n : Nat} {m : mm_M} {g i : Nat} {f : Nat → Int32} (h : mm_sv xs n m) (hg : ¬ g = mm_gX) : mm_sv xs n (mm_wa m g i f) := by
  have e : ∀ i', mm_wa m g i f mm_gX i' = m mm_gX i' := fun i' => mm_wa_ne (fun z => hg z.1.symm)
  exact ⟨fun j hj => by rw [e]; exact h.1 j hj, by rw [e]; exact h.2⟩
theorem mm_fl_w {ad : Nat → Nat → Nat} {m : mm_M} {g i y : Nat} {a : Int32} {fs : List mm_F} {f : mm_F} (hf : fs[y]? = some f) : mm_fl ad (mm_w m g i y a) g i 0 fs = (mm_fl ad m g i 0 fs).set y (mm_fv ad (mm_w m g i y a) g i y f) := by
  have hy : y < (mm_fl ad m g i 0 fs).length := by rw [mm_fl_len]; exact (List.getElem?_eq_some_iff.mp hf).1
  apply List.ext_getElem?
  intro j
  by_cases hj : j = y
  · subst hj
    rw [List.getElem?_set_self hy, mm_fl_get, hf, Nat.zero_add]
    rfl
  · rw [List.getElem?_set_ne (Ne.symm hj), mm_fl_get, mm_fl_get, Nat.zero_add]
    have e : ∀ x, mm_fv ad (mm_w m g i y a) g i j x = mm_fv ad m g i j x := by
      intro x
      unfold mm_fv
      rw [mm_w_ne m a hj]
    cases fs[j]? with
    | none => rfl
    | some x => exact congrArg some (e x)
/-- the type of a field by what it holds -/
def mm_ft (f : mm_F) (ty : FieldType) : Prop := match f with
  | .inl 0 => ty = .int
  | .inl 1 => ty = .boolean
  | .inl (_ + 2) => ∃ C, ty = .object C
  | .inr _ => False
section MMP
variable {p : Program} {l : Launch} {e : Env} {R : Room} {s : State} {mid : MethodId} {args : Array Value} {below : List Frame} {meth : Method} {c : Code} {Q : State → Prop} {D : va_G} {ad : Nat → Nat → Nat} {cy : Nat → ClassId} {A : Nat → Prop} {xs : Nat → Int32} {xn : Nat} {mc ms : Nat} {k : Nat} {kk nn : Nat} {pc : Nat} {L : List (Option mm_V)} {st : List mm_V} {m : mm_M}
theorem mm_nar {f : mm_F} {ty : FieldType} {a : Int32} (h : mm_ft f ty) (hf : f = .inl 0 ∨ (f = .inl 1 ∧ (a = 0 ∨ a = 1))) : narrow ty (.int a) = .int a ∧ fits ty (.int a) = true := by
  rcases hf with rfl | ⟨rfl, h1⟩
  · cases h; exact ⟨rfl, rfl⟩
  · cases h
    rcases h1 with rfl | rfl
    · exact ⟨rfl, rfl⟩
    · exact ⟨rfl, rfl⟩
/-- a field is written -/
theorem s_putfield {idx g i ci y pc' : Nat} {fs : List mm_F} {f : mm_F} {v : mm_V} {L' : List (Option mm_V)} {st' : List mm_V} {m' : mm_M} (C : mm_Cx p s mid args meth c D ad cy A xs xn k) (hd : decode (mm_by k) pc = .ok (.putfield idx, 3)) (hob : mm_ob g = some (ci, fs)) (hf : fs[y]? = some f) (hlk : mm_flk (mm_mt k).1 idx ci y) (hcl : mm_clf ci)
    (hfin : ∀ q, vwCl[ci]? = some q → (q.2.1 y).2.2.2 = false) (hft : ∀ q ty, vwCl[ci]? = some q → parseFieldDescriptor (q.2.1 y).2.2.1 = some ty → mm_ft f ty) (ha : mm_putf (pc + 3) L st m g i y f v = some (.inl (pc', L', st', m')))
    (hG : mm_G p l e R s mid args below meth c Q D ad cy A xs xn mc ms k kk nn pc' L' st' m') : mm_G p l e R s mid args below meth c Q D ad cy A xs xn mc ms k kk nn pc L (v :: .inr (.inr (some (g, i))) :: st) m := by
  intro H locs cells slots ls stk hP hcv hsv hS hl hs hc1 hc2
  match stk, hs with
  | w :: z :: stk, ⟨hw, h1, hs⟩ =>
    obtain ⟨hv, rfl⟩ := mm_vr_own (mm_ob999 hob) h1
    have hmem := mm_vld_ob hv hob
    obtain ⟨q, hq⟩ := mm_pos hmem
    have hat := mm_ws_at (ad := ad) (cy := cy) (m := m) hq
    have hen : ∀ m, mm_ent ad cy m g i = .inr (ci, mm_fl ad m g i 0 fs) := fun m => by unfold mm_ent; rw [hob]
    rw [hen] at hat
    obtain ⟨Cn, T, N, hc, hy, hC, hlink⟩ := hlk
    obtain ⟨C2, T2, N2, ty0, hc9, hty, hnm, hin⟩ := hcl
    have e9 : (C2, T2, N2) = (Cn, T, N) := Option.some.inj (hc9.symm.trans hc)
    cases e9
    have hgX : ¬ g = mm_gX := fun z => by subst z; cases hob
    have hyl : y < (mm_fl ad m g i 0 fs).length := by rw [mm_fl_len]; exact (List.getElem?_eq_some_iff.mp hf).1
    have key : ∃ a : Int32, m' = mm_w m g i y a ∧ pc' = pc + 3 ∧ L' = L ∧ st' = st ∧ w = mm_fv ad (mm_w m g i y a) g i y f ∧ (narrow (ty0 y) w = w ∧ fits (ty0 y) w = true) ∧ mm_cv (mm_w m g i y a) := by
      have hft9 := hft _ (ty0 y) hc (hty y hy)
      unfold mm_putf at ha
      split at ha
      · rename_i a
        cases ha
        cases hw
        refine ⟨a, rfl, rfl, rfl, rfl, ?_, mm_nar hft9 (Or.inl rfl), mm_cv_w hcv hob hf (fun h' z => by cases z)⟩
        unfold mm_fv
        dsimp only
        rw [mm_w_self]
      · rename_i a
        split at ha
        · rename_i hz
          cases ha
          cases hw
          refine ⟨a, rfl, rfl, rfl, rfl, ?_, mm_nar hft9 (Or.inr ⟨rfl, hz⟩), mm_cv_w hcv hob hf (fun h' z => by cases z)⟩
          unfold mm_fv
          dsimp only
          rw [mm_w_self]
        · cases ha
      · rename_i h h' j
        cases hb : Nat.beq h h' with
        | false => rw [hb] at ha; cases ha
        | true =>
          rw [hb] at ha
          have e8 : h = h' := Nat.eq_of_beq_eq_true hb
          subst e8
          cases ha
          obtain ⟨x8, hx8⟩ := mm_mutob hmem hob hf
          obtain ⟨hv8, rfl⟩ := mm_vr_own (mm_ob999 hx8) hw
          have hm8 := mm_vld_ob hv8 hx8
          obtain ⟨n1, n2, n3⟩ := mm_ofNat (mm_small hm8)
          obtain ⟨C8, hC8⟩ := hft9
          refine ⟨Int32.ofNat j, rfl, rfl, rfl, rfl, ?_, by rw [hC8]; exact ⟨rfl, rfl⟩, mm_cv_w hcv hob hf (fun h' z => ?_)⟩
          · unfold mm_fv
            dsimp only
            rw [mm_w_self, if_neg n3, n1]
          · cases z
            exact Or.inr ⟨n2, by rw [n1]; exact hm8⟩
      · cases ha
    obtain ⟨a, rfl, rfl, rfl, rfl, hw9, hnf, hcv9⟩ := key
    have hset : (mm_ws ad cy m).set q (ad g i, .inr (ci, (mm_fl ad m g i 0 fs).set y w)) = mm_ws ad cy (mm_w m g i y a) := by
      refine mm_ws_set hq ?_ (fun g' i' hne => mm_ent_wa hne)
      rw [hen, mm_fl_w hf, hw9]
    have kk9 : ∀ (H1 : Heap) (locs1 : List Loc), va_P D vwCl ((mm_ws ad cy m).set q (ad g i, .inr (ci, (mm_fl ad m g i 0 fs).set y w))) H1 → va_D A ((mm_ws ad cy m).set q (ad g i, .inr (ci, (mm_fl ad m g i 0 fs).set y w))) → va_S A s.heap H1 locs1 → W p l e R s mid args below meth c H1 locs1 cells slots Q (F0 mid (pc + 3) ls stk) := by
      intro H1 locs1 hP1 _ hS1
      rw [hset] at hP1
      exact hG H1 locs1 cells slots ls stk hP1 hcv9 (mm_sv_wa hsv hgX) hS1 hl hs hc1 hc2
    rcases hlink with hlink | ⟨host, hlink⟩
    · exact va_put C.1 C.2.1 (mm_tsG_ok C) hin ty0 hty hnm C.2.2.2.1 C.2.2.2.2.2.1.1 hP (C.2.2.2.2.2.2.1 m) hS q hat hc y hy (C.2.2.2.2.1 _ hlink rfl) (fun x hx => by rw [← hC]; exact hx) (hfin _ hc) (hty y hy) hnf.1 hnf.2 hyl hd kk9
    · exact va_putN C.1 C.2.1 (mm_tsG_ok C) hin ty0 hty hnm C.2.2.2.1 C.2.2.2.2.2.1.1 hP (C.2.2.2.2.2.2.1 m) hS q hat hc y hy (va_Nw.use rfl (C.2.2.2.2.2.1.2.1 _ hlink rfl)) (fun x hx => by rw [← hC]; exact hx) (hfin _ hc) (hty y hy) hnf.1 hnf.2 hyl hd kk9
end MMP
