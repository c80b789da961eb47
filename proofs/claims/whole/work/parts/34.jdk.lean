/-! methods of the JDK: max, min, abs, arraycopy -/
theorem mm_jq0 : Cond.initialized "java/lang/Math" ∈ lw_tbl := List.mem_of_getElem? (i := 164) (by decide +kernel)
theorem mm_jq1 : Cond.static Lib.Math.max.name ∈ lw_tbl := List.mem_of_getElem? (i := 681) (by decide +kernel)
theorem mm_jq2 : Cond.code Lib.Math.max.name Lib.Math.max.code 2 (some .int) ∈ lw_tbl := List.mem_of_getElem? (i := 682) (by decide +kernel)
theorem mm_jq3 : Cond.static Lib.Math.min.name ∈ lw_tbl := List.mem_of_getElem? (i := 678) (by decide +kernel)
theorem mm_jq4 : Cond.code Lib.Math.min.name Lib.Math.min.code 2 (some .int) ∈ lw_tbl := List.mem_of_getElem? (i := 679) (by decide +kernel)
theorem mm_jq5 : Cond.static Lib.Math.abs.name ∈ lw_tbl := List.mem_of_getElem? (i := 1244) (by decide +kernel)
theorem mm_jq6 : Cond.code Lib.Math.abs.name Lib.Math.abs.code 1 (some .int) ∈ lw_tbl := List.mem_of_getElem? (i := 1245) (by decide +kernel)
theorem mm_jq7 : Cond.static arraycopyName ∈ lw_tbl := List.mem_of_getElem? (i := 709) (by decide +kernel)
theorem mm_jq8 : Cond.native arraycopyName ∈ lw_tbl := List.mem_of_getElem? (i := 710) (by decide +kernel)
theorem mm_jq9 : Cond.initialized "java/lang/System" ∈ lw_tbl := List.mem_of_getElem? (i := 170) (by decide +kernel)
section MMJ
variable {p : Program} {l : Launch} {e : Env} {R : Room} {s : State} {mid : MethodId} {args : Array Value} {below : List Frame} {meth : Method} {c : Code} {Q : State → Prop} {D : va_G} {ad : Nat → Nat → Nat} {cy : Nat → ClassId} {A : Nat → Prop} {xs : Nat → Int32} {xn : Nat} {mc ms : Nat} {k : Nat} {kk nn : Nat} {pc : Nat} {L : List (Option mm_V)} {st : List mm_V} {m : mm_M}
theorem s_max {idx : Nat} {a b : Int32} (C : mm_Cx p s mid args meth c D ad cy A xs xn k) (hR : 8 ≤ R.frames ∧ 200 ≤ R.locals ∧ mc ≤ R.cells ∧ ms ≤ R.slots) (hw : mm_wd st ≤ 8) (hd : decode (mm_by k) pc = .ok (.invokestatic idx, 3)) (hlk : Cond.methodLink (mm_rn (mm_mt k).1) idx Lib.Math.max.name ∈ lw_tbl) (hG : mm_G p l e R s mid args below meth c Q D ad cy A xs xn mc ms k kk nn (pc + 3) (L) (.inl (mm_max a b) :: st) (m)) : mm_G p l e R s mid args below meth c Q D ad cy A xs xn mc ms k kk nn (pc) (L) (.inl b :: .inl a :: st) (m) := by
  intro H locs cells slots ls stk hP hcv hsv hS hl hs hc1 hc2
  match stk, hs with
  | _ :: _ :: stk, ⟨rfl, rfl, hs⟩ =>
    have h8 := mm_sr_wd _ _ hs
    exact va_mmax C.1 C.2.1 (C.2.2.1.trans hl.1.symm) C.2.2.2.1 (C.2.2.2.2.1 _ hlk rfl) (C.2.2.2.2.1 _ mm_jq1 rfl) (C.2.2.2.2.1 _ mm_jq0 rfl) (C.2.2.2.2.1 _ mm_jq2 rfl) (by omega) (by omega) (by omega) (by omega) hd (hG H locs cells slots ls _ hP hcv hsv hS hl ⟨rfl, hs⟩ hc1 hc2)
theorem s_min {idx : Nat} {a b : Int32} (C : mm_Cx p s mid args meth c D ad cy A xs xn k) (hR : 8 ≤ R.frames ∧ 200 ≤ R.locals ∧ mc ≤ R.cells ∧ ms ≤ R.slots) (hw : mm_wd st ≤ 8) (hd : decode (mm_by k) pc = .ok (.invokestatic idx, 3)) (hlk : Cond.methodLink (mm_rn (mm_mt k).1) idx Lib.Math.min.name ∈ lw_tbl) (hG : mm_G p l e R s mid args below meth c Q D ad cy A xs xn mc ms k kk nn (pc + 3) (L) (.inl (mm_min a b) :: st) (m)) : mm_G p l e R s mid args below meth c Q D ad cy A xs xn mc ms k kk nn (pc) (L) (.inl b :: .inl a :: st) (m) := by
  intro H locs cells slots ls stk hP hcv hsv hS hl hs hc1 hc2
  match stk, hs with
  | _ :: _ :: stk, ⟨rfl, rfl, hs⟩ =>
    have h8 := mm_sr_wd _ _ hs
    exact va_mmin C.1 C.2.1 (C.2.2.1.trans hl.1.symm) C.2.2.2.1 (C.2.2.2.2.1 _ hlk rfl) (C.2.2.2.2.1 _ mm_jq3 rfl) (C.2.2.2.2.1 _ mm_jq0 rfl) (C.2.2.2.2.1 _ mm_jq4 rfl) (by omega) (by omega) (by omega) (by omega) hd (hG H locs cells slots ls _ hP hcv hsv hS hl ⟨rfl, hs⟩ hc1 hc2)
theorem s_abs {idx : Nat} {a : Int32} (C : mm_Cx p s mid args meth c D ad cy A xs xn k) (hR : 8 ≤ R.frames ∧ 200 ≤ R.locals ∧ mc ≤ R.cells ∧ ms ≤ R.slots) (hw : mm_wd st ≤ 8) (hd : decode (mm_by k) pc = .ok (.invokestatic idx, 3)) (hlk : Cond.methodLink (mm_rn (mm_mt k).1) idx Lib.Math.abs.name ∈ lw_tbl) (hG : mm_G p l e R s mid args below meth c Q D ad cy A xs xn mc ms k kk nn (pc + 3) (L) (.inl (mm_abs a) :: st) (m)) : mm_G p l e R s mid args below meth c Q D ad cy A xs xn mc ms k kk nn (pc) (L) (.inl a :: st) (m) := by
  intro H locs cells slots ls stk hP hcv hsv hS hl hs hc1 hc2
  match stk, hs with
  | _ :: stk, ⟨rfl, hs⟩ =>
    have h8 := mm_sr_wd _ _ hs
    exact va_mabs C.1 C.2.1 (C.2.2.1.trans hl.1.symm) C.2.2.2.1 (C.2.2.2.2.1 _ hlk rfl) (C.2.2.2.2.1 _ mm_jq5 rfl) (C.2.2.2.2.1 _ mm_jq0 rfl) (C.2.2.2.2.1 _ mm_jq6 rfl) (by omega) (by omega) (by omega) (by omega) hd (hG H locs cells slots ls _ hP hcv hsv hS hl ⟨rfl, hs⟩ hc1 hc2)
theorem mm_nfw : nativeFrameWords "java/lang/System" "arraycopy" 5 = 7 := by decide +kernel
theorem s_copy {idx g0 i0 g1 i1 n0 n1 : Nat} {z0 z1 sp dp n : Int32} (C : mm_Cx p s mid args meth c D ad cy A xs xn k) (hR : 8 ≤ R.frames ∧ 200 ≤ R.locals ∧ mc ≤ R.cells ∧ ms ≤ R.slots) (hw : mm_wd st ≤ 8) (hd : decode (mm_by k) pc = .ok (.invokestatic idx, 3)) (hlk : Cond.methodLink (mm_rn (mm_mt k).1) idx arraycopyName ∈ lw_tbl)
    (h0 : mm_ar g0 = some (0, n0, z0)) (h1 : mm_ar g1 = some (0, n1, z1)) (hb : (0 ≤ sp ∧ 0 ≤ dp ∧ 0 ≤ n) ∧ sp.toNatClampNeg + n.toNatClampNeg ≤ n0 ∧ dp.toNatClampNeg + n.toNatClampNeg ≤ n1)
    (hG : mm_G p l e R s mid args below meth c Q D ad cy A xs xn mc ms k kk nn (pc + 3) (L) (st) (mm_wa m g1 i1 (va_cpy (m g0 i0) (m g1 i1) sp.toNatClampNeg dp.toNatClampNeg n.toNatClampNeg))) : mm_G p l e R s mid args below meth c Q D ad cy A xs xn mc ms k kk nn (pc) (L) (.inl n :: .inl dp :: .inr (.inr (some (g1, i1))) :: .inl sp :: .inr (.inr (some (g0, i0))) :: st) (m) := by
  intro H locs cells slots ls stk hP hcv hsv hS hl hs hc1 hc2
  match stk, hs with
  | _ :: _ :: w1 :: _ :: w0 :: stk, ⟨rfl, rfl, e1, rfl, e0, hs⟩ =>
    obtain ⟨hv1, rfl⟩ := mm_vr_own (mm_ar999 h1) e1
    obtain ⟨hv0, rfl⟩ := mm_vr_own (mm_ar999 h0) e0
    have hm0 := mm_vld_ar hv0 h0
    have hm1 := mm_vld_ar hv1 h1
    have hob1 := (mm_ar_ob hm1 h1).1
    obtain ⟨q0, hq0⟩ := mm_pos hm0
    obtain ⟨q1, hq1⟩ := mm_pos hm1
    have hat0 := mm_ws_at (ad := ad) (cy := cy) (m := m) hq0
    rw [mm_ent_i (mm_ar_ob hm0 h0).1 h0 (by decide)] at hat0
    have hat1 := mm_ws_at (ad := ad) (cy := cy) (m := m) hq1
    rw [mm_ent_i hob1 h1 (by decide)] at hat1
    have h8 := mm_sr_wd _ _ hs
    have hset : (mm_ws ad cy m).set q1 (ad g1 i1, .inl (cy 0, n1, .inl (va_cpy (m g0 i0) (m g1 i1) sp.toNatClampNeg dp.toNatClampNeg n.toNatClampNeg))) = mm_ws ad cy (mm_wa m g1 i1 (va_cpy (m g0 i0) (m g1 i1) sp.toNatClampNeg dp.toNatClampNeg n.toNatClampNeg)) := by
      refine mm_ws_set hq1 ?_ (fun g' i' hne => mm_ent_wa hne)
      rw [mm_ent_i hob1 h1 (by decide), mm_wa_self]
    refine va_copyi C.1 C.2.1 (C.2.2.1.trans hl.1.symm) C.2.2.2.1 (C.2.2.2.2.1 _ hlk rfl) (C.2.2.2.2.1 _ mm_jq8 rfl) (C.2.2.2.2.1 _ mm_jq7 rfl) (C.2.2.2.2.1 _ mm_jq9 rfl) C.2.2.2.2.2.1.1 hP (C.2.2.2.2.2.2.1 m) hS q0 q1 0 0 hat0 hat1 rfl rfl rfl (Int32.not_lt.mpr hb.1.1) (Int32.not_lt.mpr hb.1.2.1) (Int32.not_lt.mpr hb.1.2.2) hb.2.1 hb.2.2 (fun i _ => rfl) (by omega) (by rw [mm_nfw]; omega) hd (fun H1 locs1 hP1 _ hS1 => ?_)
    rw [hset] at hP1
    exact hG H1 locs1 cells slots ls stk hP1 (mm_cv_wa hcv hob1) (mm_sv_wa hsv (fun z => by subst z; cases h1)) hS1 hl hs hc1 hc2
end MMJ
