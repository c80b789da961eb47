/-! switches -/
/-- a tableswitch's pairs -/
def mm_tsq (pc : Int) : Int → List (Int32 × Nat) → List Int → Bool
  | _, [], [] => true
  | lo, (k, t) :: ps, o :: os => decide (k.toInt = lo) && (decide (pc + o = (t : Int)) && mm_tsq pc (lo + 1) ps os)
  | _, _, _ => false
/-- a lookupswitch's pairs -/
def mm_lsq (pc : Int) : List (Int32 × Nat) → List (Int × Int) → Bool
  | [], [] => true
  | (k, t) :: ps, (a, o) :: os => decide (k.toInt = a) && (decide (pc + o = (t : Int)) && mm_lsq pc ps os)
  | _, _ => false
theorem mm_tsq_ok {pc : Int} (a : Int32) (f : Nat → Option mm_A) (df : Nat) : ∀ (ps : List (Int32 × Nat)) (os : List Int) (lo : Int), mm_tsq pc lo ps os = true →
    (∃ (j : Nat) (off : Int) (t : Nat), os[j]? = some off ∧ pc + off = (t : Int) ∧ a.toInt = lo + j ∧ mm_swgo a f df ps = f t) ∨ ((a.toInt < lo ∨ lo + (os.length : Int) ≤ a.toInt) ∧ mm_swgo a f df ps = f df)
  | [], [], lo, _ => by
    refine Or.inr ⟨?_, rfl⟩
    show a.toInt < lo ∨ lo + ((0 : Nat) : Int) ≤ a.toInt
    omega
  | (k, t) :: ps, o :: os, lo, h => by
    simp only [mm_tsq, Bool.and_eq_true, decide_eq_true_eq] at h
    by_cases hk : a = k
    · refine Or.inl ⟨0, o, t, rfl, h.2.1, ?_, ?_⟩
      · rw [hk, h.1]; simp
      · show (if a = k then f t else mm_swgo a f df ps) = f t
        rw [if_pos hk]
    · have hs : mm_swgo a f df ((k, t) :: ps) = mm_swgo a f df ps := by
        show (if a = k then f t else mm_swgo a f df ps) = _
        rw [if_neg hk]
      have hne : ¬ a.toInt = lo := fun z => hk (Int32.toInt_inj.mp (by rw [z, h.1]))
      rcases mm_tsq_ok a f df ps os (lo + 1) h.2.2 with ⟨j, off, t', h1, h2, h3, h4⟩ | ⟨h1, h2⟩
      · exact Or.inl ⟨j + 1, off, t', h1, h2, by rw [h3]; omega, by rw [hs, h4]⟩
      · refine Or.inr ⟨?_, by rw [hs, h2]⟩
        rw [List.length_cons]
        omega
  | [], _ :: _, _, h => by cases h
  | _ :: _, [], _, h => by cases h
theorem mm_lsq_ok {pc : Int} (a : Int32) (f : Nat → Option mm_A) (df : Nat) (d : Int) (hd : pc + d = (df : Int)) : ∀ (ps : List (Int32 × Nat)) (os : List (Int × Int)), mm_lsq pc ps os = true →
    ∃ t : Nat, pc + Op.lookupswitch.offset os d a.toInt = (t : Int) ∧ mm_swgo a f df ps = f t
  | [], [], _ => ⟨df, hd, rfl⟩
  | (k, t) :: ps, (b, o) :: os, h => by
    simp only [mm_lsq, Bool.and_eq_true, decide_eq_true_eq] at h
    rw [Op.lookupswitch.offset_cons]
    by_cases hk : a = k
    · refine ⟨t, ?_, ?_⟩
      · rw [if_pos (by rw [hk, h.1])]; exact h.2.1
      · show (if a = k then f t else mm_swgo a f df ps) = f t
        rw [if_pos hk]
    · have hs : mm_swgo a f df ((k, t) :: ps) = mm_swgo a f df ps := by
        show (if a = k then f t else mm_swgo a f df ps) = _
        rw [if_neg hk]
      have hne : ¬ b = a.toInt := fun z => hk (Int32.toInt_inj.mp (by rw [← z, h.1]))
      rw [if_neg hne, hs]
      exact mm_lsq_ok a f df d hd ps os h.2.2
  | [], _ :: _, h => by cases h
  | _ :: _, [], h => by cases h
section MMSW
variable {p : Program} {l : Launch} {e : Env} {R : Room} {s : State} {mid : MethodId} {args : Array Value} {below : List Frame} {meth : Method} {c : Code} {Q : State → Prop} {D : va_G} {ad : Nat → Nat → Nat} {cy : Nat → ClassId} {A : Nat → Prop} {xs : Nat → Int32} {xn : Nat} {mc ms : Nat} {k : Nat} {kk nn : Nat} {pc : Nat} {L : List (Option mm_V)} {st : List mm_V} {m : mm_M}
theorem s_tsw {dflt lo hi : Int} {offs : Array Int} {len y : Nat} {a : Int32} {pc' : Nat} {L' : List (Option mm_V)} {st' : List mm_V} {m' : mm_M} (C : mm_Cx p s mid args meth c D ad cy A xs xn k) (hd : decode (mm_by k) pc = .ok (.tableswitch dflt lo hi offs, len)) (hq : mm_tsq pc lo (mm_sw y).1 offs.toList = true) (hlen : lo + (offs.size : Int) = hi + 1) (hdf : (pc : Int) + dflt = ((mm_sw y).2 : Int))
    (ha : mm_swgo a (fun t => mm_k t L st m) (mm_sw y).2 (mm_sw y).1 = some (.inl (pc', L', st', m'))) (hG : mm_G p l e R s mid args below meth c Q D ad cy A xs xn mc ms k kk nn (pc') (L') (st') (m')) : mm_G p l e R s mid args below meth c Q D ad cy A xs xn mc ms k kk nn (pc) (L) (.inl a :: st) (m) := by
  intro H locs cells slots ls stk hP hcv hsv hS hl hs hc1 hc2
  match stk, hs with
  | _ :: stk, ⟨rfl, hs⟩ =>
    rcases mm_tsq_ok a (fun t => mm_k t L st m) (mm_sw y).2 _ _ _ hq with ⟨j, off, t, h1, h2, h3, h4⟩ | ⟨h1, h2⟩
    · rw [h4] at ha
      cases ha
      have hj : j < offs.toList.length := (List.getElem?_eq_some_iff.mp h1).1
      rw [Array.length_toList] at hj
      refine lv_tableIn C.1 C.2.1 hd (by omega) (by omega) (off := off) (tgt := pc') ?_ h2 (hG H locs cells slots ls stk hP hcv hsv hS hl hs hc1 hc2)
      rw [show (a.toInt - lo).toNat = j by omega, ← Array.getElem?_toList]
      exact h1
    · rw [h2] at ha
      cases ha
      rw [Array.length_toList] at h1
      exact lv_tableOut C.1 C.2.1 hd (by omega) hdf (hG H locs cells slots ls stk hP hcv hsv hS hl hs hc1 hc2)
theorem s_lsw {dflt : Int} {ps : Array (Int × Int)} {len y : Nat} {a : Int32} {pc' : Nat} {L' : List (Option mm_V)} {st' : List mm_V} {m' : mm_M} (C : mm_Cx p s mid args meth c D ad cy A xs xn k) (hd : decode (mm_by k) pc = .ok (.lookupswitch dflt ps, len)) (hso : (ps.toList.zip (ps.toList.drop 1)).all (fun (a, next) => a.1 < next.1) = true) (hq : mm_lsq pc (mm_sw y).1 ps.toList = true) (hdf : (pc : Int) + dflt = ((mm_sw y).2 : Int))
    (ha : mm_swgo a (fun t => mm_k t L st m) (mm_sw y).2 (mm_sw y).1 = some (.inl (pc', L', st', m'))) (hG : mm_G p l e R s mid args below meth c Q D ad cy A xs xn mc ms k kk nn (pc') (L') (st') (m')) : mm_G p l e R s mid args below meth c Q D ad cy A xs xn mc ms k kk nn (pc) (L) (.inl a :: st) (m) := by
  intro H locs cells slots ls stk hP hcv hsv hS hl hs hc1 hc2
  match stk, hs with
  | _ :: stk, ⟨rfl, hs⟩ =>
    obtain ⟨t, h1, h2⟩ := mm_lsq_ok a (fun t => mm_k t L st m) (mm_sw y).2 dflt hdf _ _ hq
    rw [h2] at ha
    cases ha
    exact lv_lookup C.1 C.2.1 hd hso rfl h1 (hG H locs cells slots ls stk hP hcv hsv hS hl hs hc1 hc2)
end MMSW
