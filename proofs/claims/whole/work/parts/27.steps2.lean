section MMT
variable {p : Program} {l : Launch} {e : Env} {R : Room} {s : State} {mid : MethodId} {args : Array Value} {below : List Frame} {meth : Method} {c : Code} {Q : State → Prop} {D : va_G} {ad : Nat → Nat → Nat} {cy : Nat → ClassId} {A : Nat → Prop} {xs : Nat → Int32} {xn : Nat} {mc ms : Nat} {k : Nat} {kk nn : Nat} {pc : Nat} {L : List (Option mm_V)} {st : List mm_V} {m : mm_M}

theorem s_iload_n {j : Fin 4} {a : Int32} (C : mm_Cx p s mid args meth c D ad cy A xs xn k) (hd : decode (mm_by k) pc = .ok (.iload_n j, 1)) (hL : mm_ld L j.val = some (.inl a)) (hG : mm_G p l e R s mid args below meth c Q D ad cy A xs xn mc ms k kk nn (pc + 1) L (.inl a :: st) m) : mm_G p l e R s mid args below meth c Q D ad cy A xs xn mc ms k kk nn (pc) L (st) m := by
  intro H locs cells slots ls stk hP hcv hsv hS hl hs hc1 hc2
  obtain ⟨-, w, hw, rfl⟩ := hl.2.2.2 j.val _ (mm_ld_some hL)
  exact lv_iload_n C.1 C.2.1 hd rfl hw (hG H locs cells slots ls _ hP hcv hsv hS hl ⟨rfl, hs⟩ hc1 hc2)
theorem mm_vr_ref {v : Option (Nat × Nat)} {w : Value} (h : mm_vr ad (.inr (.inr v)) w) : w = .null ∨ ∃ q, w = .ref q := by
  rcases v with _ | ⟨g, i⟩
  · exact Or.inl h
  · unfold mm_vr at h
    dsimp only at h
    split at h
    · exact Or.inr h
    · exact Or.inr ⟨_, h.2⟩
theorem mm_vr_some {r : Nat × Nat} {w : Value} (h : mm_vr ad (.inr (.inr (some r))) w) : ∃ q, w = .ref q := by
  obtain ⟨g, i⟩ := r
  unfold mm_vr at h
  dsimp only at h
  split at h
  · exact h
  · exact ⟨_, h.2⟩
theorem s_aload {j : Nat} {v : Option (Nat × Nat)} (C : mm_Cx p s mid args meth c D ad cy A xs xn k) (hd : decode (mm_by k) pc = .ok (.aload j, 2)) (hL : mm_ld L j = some (.inr (.inr v))) (hG : mm_G p l e R s mid args below meth c Q D ad cy A xs xn mc ms k kk nn (pc + 2) L (.inr (.inr v) :: st) m) : mm_G p l e R s mid args below meth c Q D ad cy A xs xn mc ms k kk nn (pc) L (st) m := by
  intro H locs cells slots ls stk hP hcv hsv hS hl hs hc1 hc2
  obtain ⟨-, w, hw, hv⟩ := hl.2.2.2 j _ (mm_ld_some hL)
  rcases mm_vr_ref hv with rfl | ⟨q, rfl⟩
  · exact lv_aloadN C.1 C.2.1 hd hw (hG H locs cells slots ls _ hP hcv hsv hS hl ⟨hv, hs⟩ hc1 hc2)
  · exact lv_aload C.1 C.2.1 hd hw (hG H locs cells slots ls _ hP hcv hsv hS hl ⟨hv, hs⟩ hc1 hc2)
theorem s_aload_n {j : Fin 4} {v : Option (Nat × Nat)} (C : mm_Cx p s mid args meth c D ad cy A xs xn k) (hd : decode (mm_by k) pc = .ok (.aload_n j, 1)) (hL : mm_ld L j.val = some (.inr (.inr v))) (hG : mm_G p l e R s mid args below meth c Q D ad cy A xs xn mc ms k kk nn (pc + 1) L (.inr (.inr v) :: st) m) : mm_G p l e R s mid args below meth c Q D ad cy A xs xn mc ms k kk nn (pc) L (st) m := by
  intro H locs cells slots ls stk hP hcv hsv hS hl hs hc1 hc2
  obtain ⟨-, w, hw, hv⟩ := hl.2.2.2 j.val _ (mm_ld_some hL)
  rcases mm_vr_ref hv with rfl | ⟨q, rfl⟩
  · exact lv_aload_nN C.1 C.2.1 hd rfl hw (hG H locs cells slots ls _ hP hcv hsv hS hl ⟨hv, hs⟩ hc1 hc2)
  · exact lv_aload_n C.1 C.2.1 hd rfl hw (hG H locs cells slots ls _ hP hcv hsv hS hl ⟨hv, hs⟩ hc1 hc2)
theorem s_istore_n {j : Fin 4} {a : Int32} (C : mm_Cx p s mid args meth c D ad cy A xs xn k) (hd : decode (mm_by k) pc = .ok (.istore_n j, 1)) (hj : j.val < L.length) (hG : mm_G p l e R s mid args below meth c Q D ad cy A xs xn mc ms k kk nn (pc + 1) (L.set j.val (some (.inl a))) (st) m) : mm_G p l e R s mid args below meth c Q D ad cy A xs xn mc ms k kk nn (pc) L (.inl a :: st) m := by
  intro H locs cells slots ls stk hP hcv hsv hS hl hs hc1 hc2
  match stk, hs with
  | _ :: stk, ⟨rfl, hs⟩ =>
    refine lv_istore_n C.1 C.2.1 hd rfl (mm_lv_has hl.1 hl.2.1) (by rw [← hl.2.2.1]; exact hj) rfl (fun ls' hl' => ?_)
    exact hG H locs cells slots ls' stk hP hcv hsv hS (mm_lr_set hl (by rw [← hl.2.2.1]; exact hj) rfl trivial hl') hs hc1 hc2
theorem s_astore {j : Nat} {r : Nat × Nat} (C : mm_Cx p s mid args meth c D ad cy A xs xn k) (hd : decode (mm_by k) pc = .ok (.astore j, 2)) (hj : j < L.length) (hG : mm_G p l e R s mid args below meth c Q D ad cy A xs xn mc ms k kk nn (pc + 2) (L.set j (some (.inr (.inr (some r))))) (st) m) : mm_G p l e R s mid args below meth c Q D ad cy A xs xn mc ms k kk nn (pc) L (.inr (.inr (some r)) :: st) m := by
  intro H locs cells slots ls stk hP hcv hsv hS hl hs hc1 hc2
  match stk, hs with
  | w :: stk, ⟨hv, hs⟩ =>
    obtain ⟨q, rfl⟩ := mm_vr_some hv
    refine lv_astore C.1 C.2.1 hd (mm_lv_has hl.1 hl.2.1) (by rw [← hl.2.2.1]; exact hj) rfl (fun ls' hl' => ?_)
    exact hG H locs cells slots ls' stk hP hcv hsv hS (mm_lr_set hl (by rw [← hl.2.2.1]; exact hj) hv trivial hl') hs hc1 hc2
theorem s_astore_n {j : Fin 4} {r : Nat × Nat} (C : mm_Cx p s mid args meth c D ad cy A xs xn k) (hd : decode (mm_by k) pc = .ok (.astore_n j, 1)) (hj : j.val < L.length) (hG : mm_G p l e R s mid args below meth c Q D ad cy A xs xn mc ms k kk nn (pc + 1) (L.set j.val (some (.inr (.inr (some r))))) (st) m) : mm_G p l e R s mid args below meth c Q D ad cy A xs xn mc ms k kk nn (pc) L (.inr (.inr (some r)) :: st) m := by
  intro H locs cells slots ls stk hP hcv hsv hS hl hs hc1 hc2
  match stk, hs with
  | w :: stk, ⟨hv, hs⟩ =>
    obtain ⟨q, rfl⟩ := mm_vr_some hv
    refine lv_astore_n C.1 C.2.1 hd rfl (mm_lv_has hl.1 hl.2.1) (by rw [← hl.2.2.1]; exact hj) rfl (fun ls' hl' => ?_)
    exact hG H locs cells slots ls' stk hP hcv hsv hS (mm_lr_set hl (by rw [← hl.2.2.1]; exact hj) hv trivial hl') hs hc1 hc2
theorem s_iinc {j : Nat} {n : Int} {a v : Int32} (C : mm_Cx p s mid args meth c D ad cy A xs xn k) (hd : decode (mm_by k) pc = .ok (.iinc j n, 3)) (hn : Int32.ofInt n = v) (hL : mm_ld L j = some (.inl a)) (hG : mm_G p l e R s mid args below meth c Q D ad cy A xs xn mc ms k kk nn (pc + 3) (L.set j (some (.inl (a + v)))) (st) m) : mm_G p l e R s mid args below meth c Q D ad cy A xs xn mc ms k kk nn (pc) L (st) m := by
  intro H locs cells slots ls stk hP hcv hsv hS hl hs hc1 hc2
  obtain ⟨-, w, hw, rfl⟩ := hl.2.2.2 j _ (mm_ld_some hL)
  have hj : j < L.length := (List.getElem?_eq_some_iff.mp (mm_ld_some hL)).1
  obtain ⟨q, hq⟩ : ∃ q : Nat, (mm_lv ls)[q]? = some (j, Value.int a) := List.getElem?_of_mem (mm_lv_mem hw rfl)
  refine lv_iinc C.1 C.2.1 hd (mm_lv_has hl.1 hl.2.1) hq (by rw [hn]) (by rw [← hl.2.2.1]; exact hj) rfl (fun ls' hl' => ?_)
  exact hG H locs cells slots ls' stk hP hcv hsv hS (mm_lr_set hl (by rw [← hl.2.2.1]; exact hj) rfl trivial hl') hs hc1 hc2
theorem s_iincW {j : Nat} {n : Int} {a v : Int32} (C : mm_Cx p s mid args meth c D ad cy A xs xn k) (hd : decode (mm_by k) pc = .ok (.iinc j n, 6)) (hn : Int32.ofInt n = v) (hL : mm_ld L j = some (.inl a)) (hG : mm_G p l e R s mid args below meth c Q D ad cy A xs xn mc ms k kk nn (pc + 6) (L.set j (some (.inl (a + v)))) (st) m) : mm_G p l e R s mid args below meth c Q D ad cy A xs xn mc ms k kk nn (pc) L (st) m := by
  intro H locs cells slots ls stk hP hcv hsv hS hl hs hc1 hc2
  obtain ⟨-, w, hw, rfl⟩ := hl.2.2.2 j _ (mm_ld_some hL)
  have hj : j < L.length := (List.getElem?_eq_some_iff.mp (mm_ld_some hL)).1
  obtain ⟨q, hq⟩ : ∃ q : Nat, (mm_lv ls)[q]? = some (j, Value.int a) := List.getElem?_of_mem (mm_lv_mem hw rfl)
  refine lv_iincW C.1 C.2.1 hd (mm_lv_has hl.1 hl.2.1) hq (by rw [hn]) (by rw [← hl.2.2.1]; exact hj) rfl (fun ls' hl' => ?_)
  exact hG H locs cells slots ls' stk hP hcv hsv hS (mm_lr_set hl (by rw [← hl.2.2.1]; exact hj) rfl trivial hl') hs hc1 hc2
theorem s_iconst {n : Int} {v : Int32} (C : mm_Cx p s mid args meth c D ad cy A xs xn k) (hd : decode (mm_by k) pc = .ok (.iconst n, 1)) (hn : Int32.ofInt n = v) (hG : mm_G p l e R s mid args below meth c Q D ad cy A xs xn mc ms k kk nn (pc + 1) L (.inl v :: st) m) : mm_G p l e R s mid args below meth c Q D ad cy A xs xn mc ms k kk nn (pc) L (st) m := by
  intro H locs cells slots ls stk hP hcv hsv hS hl hs hc1 hc2
  exact lv_iconst C.1 C.2.1 hd hn (hG H locs cells slots ls _ hP hcv hsv hS hl ⟨rfl, hs⟩ hc1 hc2)
theorem s_bipush {n : Int} {v : Int32} (C : mm_Cx p s mid args meth c D ad cy A xs xn k) (hd : decode (mm_by k) pc = .ok (.bipush n, 2)) (hn : (Int8.ofInt n).toInt32 = v) (hG : mm_G p l e R s mid args below meth c Q D ad cy A xs xn mc ms k kk nn (pc + 2) L (.inl v :: st) m) : mm_G p l e R s mid args below meth c Q D ad cy A xs xn mc ms k kk nn (pc) L (st) m := by
  intro H locs cells slots ls stk hP hcv hsv hS hl hs hc1 hc2
  exact lv_bipush C.1 C.2.1 hd hn (hG H locs cells slots ls _ hP hcv hsv hS hl ⟨rfl, hs⟩ hc1 hc2)
theorem s_sipush {n : Int} {v : Int32} (C : mm_Cx p s mid args meth c D ad cy A xs xn k) (hd : decode (mm_by k) pc = .ok (.sipush n, 3)) (hn : (Int16.ofInt n).toInt32 = v) (hG : mm_G p l e R s mid args below meth c Q D ad cy A xs xn mc ms k kk nn (pc + 3) L (.inl v :: st) m) : mm_G p l e R s mid args below meth c Q D ad cy A xs xn mc ms k kk nn (pc) L (st) m := by
  intro H locs cells slots ls stk hP hcv hsv hS hl hs hc1 hc2
  exact lv_sipush C.1 C.2.1 hd hn (hG H locs cells slots ls _ hP hcv hsv hS hl ⟨rfl, hs⟩ hc1 hc2)
theorem s_ldc {n : Nat} {v : Int32} (C : mm_Cx p s mid args meth c D ad cy A xs xn k) (hd : decode (mm_by k) pc = .ok (.ldc n, 2)) (hw : Cond.constant (mm_rn (mm_mt k).1) n v ∈ lw_tbl) (hG : mm_G p l e R s mid args below meth c Q D ad cy A xs xn mc ms k kk nn (pc + 2) L (.inl v :: st) m) : mm_G p l e R s mid args below meth c Q D ad cy A xs xn mc ms k kk nn (pc) L (st) m := by
  intro H locs cells slots ls stk hP hcv hsv hS hl hs hc1 hc2
  exact lv_ldc C.1 C.2.1 C.2.2.2.1 (C.2.2.2.2.1 _ hw rfl) hd (hG H locs cells slots ls _ hP hcv hsv hS hl ⟨rfl, hs⟩ hc1 hc2)
theorem s_ldc_w {n : Nat} {v : Int32} (C : mm_Cx p s mid args meth c D ad cy A xs xn k) (hd : decode (mm_by k) pc = .ok (.ldc_w n, 3)) (hw : Cond.constant (mm_rn (mm_mt k).1) n v ∈ lw_tbl) (hG : mm_G p l e R s mid args below meth c Q D ad cy A xs xn mc ms k kk nn (pc + 3) L (.inl v :: st) m) : mm_G p l e R s mid args below meth c Q D ad cy A xs xn mc ms k kk nn (pc) L (st) m := by
  intro H locs cells slots ls stk hP hcv hsv hS hl hs hc1 hc2
  exact lv_ldcw C.1 C.2.1 C.2.2.2.1 (C.2.2.2.2.1 _ hw rfl) hd (hG H locs cells slots ls _ hP hcv hsv hS hl ⟨rfl, hs⟩ hc1 hc2)
theorem s_lconst {n : Fin 2} {v : Int32} (C : mm_Cx p s mid args meth c D ad cy A xs xn k) (hd : decode (mm_by k) pc = .ok (.lconst n, 1)) (hn : Int64.ofNat (n : Nat) = v.toInt64) (hG : mm_G p l e R s mid args below meth c Q D ad cy A xs xn mc ms k kk nn (pc + 1) L (.inr (.inl v) :: st) m) : mm_G p l e R s mid args below meth c Q D ad cy A xs xn mc ms k kk nn (pc) L (st) m := by
  intro H locs cells slots ls stk hP hcv hsv hS hl hs hc1 hc2
  exact lv_lconst C.1 C.2.1 hd hn (hG H locs cells slots ls _ hP hcv hsv hS hl ⟨rfl, hs⟩ hc1 hc2)
theorem s_ldcS {n y : Nat} {tx : String} (C : mm_Cx p s mid args meth c D ad cy A xs xn k) (hd : decode (mm_by k) pc = .ok (.ldc n, 2)) (ht : mm_tx[y]? = some ((mm_mt k).1, n, tx)) (hy : y < mm_ns) (hG : mm_G p l e R s mid args below meth c Q D ad cy A xs xn mc ms k kk nn (pc + 2) L (.inr (.inr (some (mm_gS, y))) :: st) m) : mm_G p l e R s mid args below meth c Q D ad cy A xs xn mc ms k kk nn (pc) L (st) m := by
  intro H locs cells slots ls stk hP hcv hsv hS hl hs hc1 hc2
  exact va_ldcS C.1 C.2.1 C.2.2.2.1 (C.2.2.2.2.2.1.2.2.2.1 y _ n tx ht) hd (hG H locs cells slots ls _ hP hcv hsv hS hl ⟨⟨Or.inr (Or.inl ⟨rfl, hy⟩), rfl⟩, hs⟩ hc1 hc2)
theorem s_ldcSW {n y : Nat} {tx : String} (C : mm_Cx p s mid args meth c D ad cy A xs xn k) (hd : decode (mm_by k) pc = .ok (.ldc_w n, 3)) (ht : mm_tx[y]? = some ((mm_mt k).1, n, tx)) (hy : y < mm_ns) (hG : mm_G p l e R s mid args below meth c Q D ad cy A xs xn mc ms k kk nn (pc + 3) L (.inr (.inr (some (mm_gS, y))) :: st) m) : mm_G p l e R s mid args below meth c Q D ad cy A xs xn mc ms k kk nn (pc) L (st) m := by
  intro H locs cells slots ls stk hP hcv hsv hS hl hs hc1 hc2
  have hZ := C.2.2.2.2.2.1.2.2.2.1 y _ n tx ht
  intro T hT X
  obtain ⟨t, a1, b1⟩ := hG H locs cells slots ls (.ref (ad mm_gS y) :: stk) hP hcv hsv hS hl ⟨⟨Or.inr (Or.inl ⟨rfl, hy⟩), rfl⟩, hs⟩ hc1 hc2 T hT X
  exact ⟨t, Stand.ldcStringW X C.1 C.2.2.2.1 (text := tx) (a := ad mm_gS y) hZ.1 hZ.2 (g := F0 mid pc ls stk) rfl (by rw [C.2.1]; exact hd) t a1, b1⟩
theorem s_dup {v : mm_V} (hv : mm_nl v) (C : mm_Cx p s mid args meth c D ad cy A xs xn k) (hd : decode (mm_by k) pc = .ok (.dup, 1)) (hG : mm_G p l e R s mid args below meth c Q D ad cy A xs xn mc ms k kk nn (pc + 1) L (v :: v :: st) m) : mm_G p l e R s mid args below meth c Q D ad cy A xs xn mc ms k kk nn (pc) L (v :: st) m := by
  intro H locs cells slots ls stk hP hcv hsv hS hl hs hc1 hc2
  match stk, hs with
  | w :: stk, ⟨h1, hs⟩ => exact lv_dup C.1 C.2.1 hd (mm_cat h1 hv) (hG H locs cells slots ls _ hP hcv hsv hS hl ⟨h1, h1, hs⟩ hc1 hc2)
theorem s_pop {v : mm_V} (hv : mm_nl v) (C : mm_Cx p s mid args meth c D ad cy A xs xn k) (hd : decode (mm_by k) pc = .ok (.pop, 1)) (hG : mm_G p l e R s mid args below meth c Q D ad cy A xs xn mc ms k kk nn (pc + 1) L (st) m) : mm_G p l e R s mid args below meth c Q D ad cy A xs xn mc ms k kk nn (pc) L (v :: st) m := by
  intro H locs cells slots ls stk hP hcv hsv hS hl hs hc1 hc2
  match stk, hs with
  | w :: stk, ⟨h1, hs⟩ => exact lv_pop C.1 C.2.1 hd (mm_cat h1 hv) (hG H locs cells slots ls _ hP hcv hsv hS hl hs hc1 hc2)
theorem s_dup2 {u v : mm_V} (hu : mm_nl u) (hv : mm_nl v) (C : mm_Cx p s mid args meth c D ad cy A xs xn k) (hd : decode (mm_by k) pc = .ok (.dup2, 1)) (hG : mm_G p l e R s mid args below meth c Q D ad cy A xs xn mc ms k kk nn (pc + 1) L (u :: v :: u :: v :: st) m) : mm_G p l e R s mid args below meth c Q D ad cy A xs xn mc ms k kk nn (pc) L (u :: v :: st) m := by
  intro H locs cells slots ls stk hP hcv hsv hS hl hs hc1 hc2
  match stk, hs with
  | w :: z :: stk, ⟨h1, h2, hs⟩ => exact lv_dup2_11 C.1 C.2.1 hd (mm_cat h1 hu) (mm_cat h2 hv) (hG H locs cells slots ls _ hP hcv hsv hS hl ⟨h1, h2, h1, h2, hs⟩ hc1 hc2)
theorem s_isub {a b : Int32} (C : mm_Cx p s mid args meth c D ad cy A xs xn k) (hd : decode (mm_by k) pc = .ok (.isub, 1)) (hG : mm_G p l e R s mid args below meth c Q D ad cy A xs xn mc ms k kk nn (pc + 1) L (.inl (a - b) :: st) m) : mm_G p l e R s mid args below meth c Q D ad cy A xs xn mc ms k kk nn (pc) L (.inl b :: .inl a :: st) m := by
  intro H locs cells slots ls stk hP hcv hsv hS hl hs hc1 hc2
  match stk, hs with
  | _ :: _ :: stk, ⟨rfl, rfl, hs⟩ => exact lv_isub C.1 C.2.1 hd (hG H locs cells slots ls _ hP hcv hsv hS hl ⟨rfl, hs⟩ hc1 hc2)
theorem s_imul {a b : Int32} (C : mm_Cx p s mid args meth c D ad cy A xs xn k) (hd : decode (mm_by k) pc = .ok (.imul, 1)) (hG : mm_G p l e R s mid args below meth c Q D ad cy A xs xn mc ms k kk nn (pc + 1) L (.inl (a * b) :: st) m) : mm_G p l e R s mid args below meth c Q D ad cy A xs xn mc ms k kk nn (pc) L (.inl b :: .inl a :: st) m := by
  intro H locs cells slots ls stk hP hcv hsv hS hl hs hc1 hc2
  match stk, hs with
  | _ :: _ :: stk, ⟨rfl, rfl, hs⟩ => exact lv_imul C.1 C.2.1 hd (hG H locs cells slots ls _ hP hcv hsv hS hl ⟨rfl, hs⟩ hc1 hc2)
theorem s_iand {a b : Int32} (C : mm_Cx p s mid args meth c D ad cy A xs xn k) (hd : decode (mm_by k) pc = .ok (.iand, 1)) (hG : mm_G p l e R s mid args below meth c Q D ad cy A xs xn mc ms k kk nn (pc + 1) L (.inl (a &&& b) :: st) m) : mm_G p l e R s mid args below meth c Q D ad cy A xs xn mc ms k kk nn (pc) L (.inl b :: .inl a :: st) m := by
  intro H locs cells slots ls stk hP hcv hsv hS hl hs hc1 hc2
  match stk, hs with
  | _ :: _ :: stk, ⟨rfl, rfl, hs⟩ => exact lv_iand C.1 C.2.1 hd (hG H locs cells slots ls _ hP hcv hsv hS hl ⟨rfl, hs⟩ hc1 hc2)
theorem s_ior {a b : Int32} (C : mm_Cx p s mid args meth c D ad cy A xs xn k) (hd : decode (mm_by k) pc = .ok (.ior, 1)) (hG : mm_G p l e R s mid args below meth c Q D ad cy A xs xn mc ms k kk nn (pc + 1) L (.inl (a ||| b) :: st) m) : mm_G p l e R s mid args below meth c Q D ad cy A xs xn mc ms k kk nn (pc) L (.inl b :: .inl a :: st) m := by
  intro H locs cells slots ls stk hP hcv hsv hS hl hs hc1 hc2
  match stk, hs with
  | _ :: _ :: stk, ⟨rfl, rfl, hs⟩ => exact lv_ior C.1 C.2.1 hd (hG H locs cells slots ls _ hP hcv hsv hS hl ⟨rfl, hs⟩ hc1 hc2)
theorem s_ixor {a b : Int32} (C : mm_Cx p s mid args meth c D ad cy A xs xn k) (hd : decode (mm_by k) pc = .ok (.ixor, 1)) (hG : mm_G p l e R s mid args below meth c Q D ad cy A xs xn mc ms k kk nn (pc + 1) L (.inl (a ^^^ b) :: st) m) : mm_G p l e R s mid args below meth c Q D ad cy A xs xn mc ms k kk nn (pc) L (.inl b :: .inl a :: st) m := by
  intro H locs cells slots ls stk hP hcv hsv hS hl hs hc1 hc2
  match stk, hs with
  | _ :: _ :: stk, ⟨rfl, rfl, hs⟩ => exact lv_ixor C.1 C.2.1 hd (hG H locs cells slots ls _ hP hcv hsv hS hl ⟨rfl, hs⟩ hc1 hc2)
theorem s_ishl {a b : Int32} (C : mm_Cx p s mid args meth c D ad cy A xs xn k) (hd : decode (mm_by k) pc = .ok (.ishl, 1)) (hG : mm_G p l e R s mid args below meth c Q D ad cy A xs xn mc ms k kk nn (pc + 1) L (.inl (a <<< (b &&& 31)) :: st) m) : mm_G p l e R s mid args below meth c Q D ad cy A xs xn mc ms k kk nn (pc) L (.inl b :: .inl a :: st) m := by
  intro H locs cells slots ls stk hP hcv hsv hS hl hs hc1 hc2
  match stk, hs with
  | _ :: _ :: stk, ⟨rfl, rfl, hs⟩ => exact lv_ishl C.1 C.2.1 hd (hG H locs cells slots ls _ hP hcv hsv hS hl ⟨rfl, hs⟩ hc1 hc2)
theorem s_ishr {a b : Int32} (C : mm_Cx p s mid args meth c D ad cy A xs xn k) (hd : decode (mm_by k) pc = .ok (.ishr, 1)) (hG : mm_G p l e R s mid args below meth c Q D ad cy A xs xn mc ms k kk nn (pc + 1) L (.inl (a >>> (b &&& 31)) :: st) m) : mm_G p l e R s mid args below meth c Q D ad cy A xs xn mc ms k kk nn (pc) L (.inl b :: .inl a :: st) m := by
  intro H locs cells slots ls stk hP hcv hsv hS hl hs hc1 hc2
  match stk, hs with
  | _ :: _ :: stk, ⟨rfl, rfl, hs⟩ => exact lv_ishr C.1 C.2.1 hd (hG H locs cells slots ls _ hP hcv hsv hS hl ⟨rfl, hs⟩ hc1 hc2)
theorem s_iushr {a b : Int32} (C : mm_Cx p s mid args meth c D ad cy A xs xn k) (hd : decode (mm_by k) pc = .ok (.iushr, 1)) (hG : mm_G p l e R s mid args below meth c Q D ad cy A xs xn mc ms k kk nn (pc + 1) L (.inl (mm_ushr a b) :: st) m) : mm_G p l e R s mid args below meth c Q D ad cy A xs xn mc ms k kk nn (pc) L (.inl b :: .inl a :: st) m := by
  intro H locs cells slots ls stk hP hcv hsv hS hl hs hc1 hc2
  match stk, hs with
  | _ :: _ :: stk, ⟨rfl, rfl, hs⟩ => exact lv_iushr C.1 C.2.1 hd rfl (hG H locs cells slots ls _ hP hcv hsv hS hl ⟨rfl, hs⟩ hc1 hc2)
theorem s_idiv {a b : Int32} (C : mm_Cx p s mid args meth c D ad cy A xs xn k) (hb0 : ¬ b = 0) (hd : decode (mm_by k) pc = .ok (.idiv, 1)) (hG : mm_G p l e R s mid args below meth c Q D ad cy A xs xn mc ms k kk nn (pc + 1) L (.inl (a / b) :: st) m) : mm_G p l e R s mid args below meth c Q D ad cy A xs xn mc ms k kk nn (pc) L (.inl b :: .inl a :: st) m := by
  intro H locs cells slots ls stk hP hcv hsv hS hl hs hc1 hc2
  match stk, hs with
  | _ :: _ :: stk, ⟨rfl, rfl, hs⟩ => exact lv_idiv C.1 C.2.1 hd hb0 (hG H locs cells slots ls _ hP hcv hsv hS hl ⟨rfl, hs⟩ hc1 hc2)
theorem mm_rem (a b : Int32) : a % b = a - a / b * b := by
  have h1 : (a % b).toInt = a.toInt.tmod b.toInt := Int32.toInt_mod a b
  have h2 : (a / b).toInt = (a.toInt.tdiv b.toInt).bmod (2 ^ 32) := Int32.toInt_div a b
  apply Int32.toInt_inj.mp
  rw [Int32.toInt_sub, Int32.toInt_mul, h2, h1]
  have h3 : a.toInt.tmod b.toInt = a.toInt - a.toInt.tdiv b.toInt * b.toInt := by
    rw [Int.tmod_def, Int.mul_comm]
  have h4 : ((a.toInt.tdiv b.toInt).bmod (2 ^ 32) * b.toInt).bmod (2 ^ 32) = (a.toInt.tdiv b.toInt * b.toInt).bmod (2 ^ 32) := Int.bmod_mul_bmod
  rw [h4, Int.sub_bmod_bmod, ← h3]
  have h5 := (a % b).toInt_lt
  have h6 := (a % b).le_toInt
  rw [h1] at h5 h6
  exact (Int.bmod_eq_of_le (by omega) (by omega)).symm
theorem s_irem {a b : Int32} (C : mm_Cx p s mid args meth c D ad cy A xs xn k) (hb0 : ¬ b = 0) (hd : decode (mm_by k) pc = .ok (.irem, 1)) (hG : mm_G p l e R s mid args below meth c Q D ad cy A xs xn mc ms k kk nn (pc + 1) L (.inl (a % b) :: st) m) : mm_G p l e R s mid args below meth c Q D ad cy A xs xn mc ms k kk nn (pc) L (.inl b :: .inl a :: st) m := by
  intro H locs cells slots ls stk hP hcv hsv hS hl hs hc1 hc2
  match stk, hs with
  | _ :: _ :: stk, ⟨rfl, rfl, hs⟩ => exact lv_irem C.1 C.2.1 hd hb0 (hG H locs cells slots ls _ hP hcv hsv hS hl ⟨by rw [mm_rem]; exact rfl, hs⟩ hc1 hc2)
theorem s_i2l {a : Int32} (C : mm_Cx p s mid args meth c D ad cy A xs xn k) (hd : decode (mm_by k) pc = .ok (.i2l, 1)) (hG : mm_G p l e R s mid args below meth c Q D ad cy A xs xn mc ms k kk nn (pc + 1) L (.inr (.inl a) :: st) m) : mm_G p l e R s mid args below meth c Q D ad cy A xs xn mc ms k kk nn (pc) L (.inl a :: st) m := by
  intro H locs cells slots ls stk hP hcv hsv hS hl hs hc1 hc2
  match stk, hs with
  | _ :: stk, ⟨rfl, hs⟩ => exact lv_i2l C.1 C.2.1 hd rfl (hG H locs cells slots ls _ hP hcv hsv hS hl ⟨rfl, hs⟩ hc1 hc2)
theorem s_i2b {a : Int32} (C : mm_Cx p s mid args meth c D ad cy A xs xn k) (hd : decode (mm_by k) pc = .ok (.i2b, 1)) (hG : mm_G p l e R s mid args below meth c Q D ad cy A xs xn mc ms k kk nn (pc + 1) L (.inl a.toInt8.toInt32 :: st) m) : mm_G p l e R s mid args below meth c Q D ad cy A xs xn mc ms k kk nn (pc) L (.inl a :: st) m := by
  intro H locs cells slots ls stk hP hcv hsv hS hl hs hc1 hc2
  match stk, hs with
  | _ :: stk, ⟨rfl, hs⟩ => exact lv_i2b C.1 C.2.1 hd rfl (hG H locs cells slots ls _ hP hcv hsv hS hl ⟨rfl, hs⟩ hc1 hc2)
theorem s_i2s {a : Int32} (C : mm_Cx p s mid args meth c D ad cy A xs xn k) (hd : decode (mm_by k) pc = .ok (.i2s, 1)) (hG : mm_G p l e R s mid args below meth c Q D ad cy A xs xn mc ms k kk nn (pc + 1) L (.inl a.toInt16.toInt32 :: st) m) : mm_G p l e R s mid args below meth c Q D ad cy A xs xn mc ms k kk nn (pc) L (.inl a :: st) m := by
  intro H locs cells slots ls stk hP hcv hsv hS hl hs hc1 hc2
  match stk, hs with
  | _ :: stk, ⟨rfl, hs⟩ => exact lv_i2s C.1 C.2.1 hd rfl (hG H locs cells slots ls _ hP hcv hsv hS hl ⟨rfl, hs⟩ hc1 hc2)
theorem mm_cmp64 (a b : Int32) : lg_cmp a.toInt64 b.toInt64 = mm_cmp a b := by
  unfold lg_cmp mm_cmp
  have h1 : (a.toInt64 = b.toInt64) ↔ a = b := by
    rw [← Int64.toInt_inj, Int32.toInt_toInt64, Int32.toInt_toInt64, Int32.toInt_inj]
  have h2 : (a.toInt64 > b.toInt64) ↔ b < a := by
    rw [gt_iff_lt, Int64.lt_iff_toInt_lt, Int32.toInt_toInt64, Int32.toInt_toInt64, ← Int32.lt_iff_toInt_lt]
  simp only [h1, h2]
  by_cases q1 : a = b
  · subst q1
    simp
  · by_cases q2 : b < a
    · have q3 : ¬ a < b := fun q => absurd (Int32.lt_trans q q2) Int32.lt_irrefl
      simp [q1, q2, q3]
    · have q3 : a < b := by
        rw [Int32.lt_iff_toInt_lt] at q2 ⊢
        have q4 : ¬ a.toInt = b.toInt := fun q => q1 (Int32.toInt_inj.mp q)
        omega
      simp [q1, q2, q3]
theorem s_lcmp {a b : Int32} (C : mm_Cx p s mid args meth c D ad cy A xs xn k) (hd : decode (mm_by k) pc = .ok (.lcmp, 1)) (hG : mm_G p l e R s mid args below meth c Q D ad cy A xs xn mc ms k kk nn (pc + 1) L (.inl (mm_cmp a b) :: st) m) : mm_G p l e R s mid args below meth c Q D ad cy A xs xn mc ms k kk nn (pc) L (.inr (.inl b) :: .inr (.inl a) :: st) m := by
  intro H locs cells slots ls stk hP hcv hsv hS hl hs hc1 hc2
  match stk, hs with
  | _ :: _ :: stk, ⟨rfl, rfl, hs⟩ => exact W.lcmp C.1 C.2.1 hd (hG H locs cells slots ls _ hP hcv hsv hS hl ⟨by rw [mm_cmp64]; exact rfl, hs⟩ hc1 hc2)
theorem s_icmp_eq {a b : Int32} {off : Int} {tg : Nat} (C : mm_Cx p s mid args meth c D ad cy A xs xn k) (hd : decode (mm_by k) pc = .ok (.if_icmp .eq off, 3)) (ht : (pc : Int) + off = (tg : Int)) (h1 : a = b → mm_G p l e R s mid args below meth c Q D ad cy A xs xn mc ms k kk nn (tg) L (st) m) (h2 : ¬ (a = b) → mm_G p l e R s mid args below meth c Q D ad cy A xs xn mc ms k kk nn (pc + 3) L (st) m) : mm_G p l e R s mid args below meth c Q D ad cy A xs xn mc ms k kk nn (pc) L (.inl b :: .inl a :: st) m := by
  intro H locs cells slots ls stk hP hcv hsv hS hl hs hc1 hc2
  match stk, hs with
  | _ :: _ :: stk, ⟨rfl, rfl, hs⟩ => exact lv_icmp_eq C.1 C.2.1 hd ht (fun hc => h1 hc H locs cells slots ls stk hP hcv hsv hS hl hs hc1 hc2) (fun hc => h2 hc H locs cells slots ls stk hP hcv hsv hS hl hs hc1 hc2)
theorem s_if_eq {a : Int32} {off : Int} {tg : Nat} (C : mm_Cx p s mid args meth c D ad cy A xs xn k) (hd : decode (mm_by k) pc = .ok (.ifCond .eq off, 3)) (ht : (pc : Int) + off = (tg : Int)) (h1 : a = (0 : Int32) → mm_G p l e R s mid args below meth c Q D ad cy A xs xn mc ms k kk nn (tg) L (st) m) (h2 : ¬ (a = (0 : Int32)) → mm_G p l e R s mid args below meth c Q D ad cy A xs xn mc ms k kk nn (pc + 3) L (st) m) : mm_G p l e R s mid args below meth c Q D ad cy A xs xn mc ms k kk nn (pc) L (.inl a :: st) m := by
  intro H locs cells slots ls stk hP hcv hsv hS hl hs hc1 hc2
  match stk, hs with
  | _ :: stk, ⟨rfl, hs⟩ => exact lv_if_eq C.1 C.2.1 hd ht (fun hc => h1 hc H locs cells slots ls stk hP hcv hsv hS hl hs hc1 hc2) (fun hc => h2 hc H locs cells slots ls stk hP hcv hsv hS hl hs hc1 hc2)
theorem s_icmp_ne {a b : Int32} {off : Int} {tg : Nat} (C : mm_Cx p s mid args meth c D ad cy A xs xn k) (hd : decode (mm_by k) pc = .ok (.if_icmp .ne off, 3)) (ht : (pc : Int) + off = (tg : Int)) (h1 : a ≠ b → mm_G p l e R s mid args below meth c Q D ad cy A xs xn mc ms k kk nn (tg) L (st) m) (h2 : ¬ (a ≠ b) → mm_G p l e R s mid args below meth c Q D ad cy A xs xn mc ms k kk nn (pc + 3) L (st) m) : mm_G p l e R s mid args below meth c Q D ad cy A xs xn mc ms k kk nn (pc) L (.inl b :: .inl a :: st) m := by
  intro H locs cells slots ls stk hP hcv hsv hS hl hs hc1 hc2
  match stk, hs with
  | _ :: _ :: stk, ⟨rfl, rfl, hs⟩ => exact lv_icmp_ne C.1 C.2.1 hd ht (fun hc => h1 hc H locs cells slots ls stk hP hcv hsv hS hl hs hc1 hc2) (fun hc => h2 (fun z => z hc) H locs cells slots ls stk hP hcv hsv hS hl hs hc1 hc2)
theorem s_if_ne {a : Int32} {off : Int} {tg : Nat} (C : mm_Cx p s mid args meth c D ad cy A xs xn k) (hd : decode (mm_by k) pc = .ok (.ifCond .ne off, 3)) (ht : (pc : Int) + off = (tg : Int)) (h1 : a ≠ (0 : Int32) → mm_G p l e R s mid args below meth c Q D ad cy A xs xn mc ms k kk nn (tg) L (st) m) (h2 : ¬ (a ≠ (0 : Int32)) → mm_G p l e R s mid args below meth c Q D ad cy A xs xn mc ms k kk nn (pc + 3) L (st) m) : mm_G p l e R s mid args below meth c Q D ad cy A xs xn mc ms k kk nn (pc) L (.inl a :: st) m := by
  intro H locs cells slots ls stk hP hcv hsv hS hl hs hc1 hc2
  match stk, hs with
  | _ :: stk, ⟨rfl, hs⟩ => exact lv_if_ne C.1 C.2.1 hd ht (fun hc => h1 hc H locs cells slots ls stk hP hcv hsv hS hl hs hc1 hc2) (fun hc => h2 (fun z => z hc) H locs cells slots ls stk hP hcv hsv hS hl hs hc1 hc2)
theorem s_icmp_lt {a b : Int32} {off : Int} {tg : Nat} (C : mm_Cx p s mid args meth c D ad cy A xs xn k) (hd : decode (mm_by k) pc = .ok (.if_icmp .lt off, 3)) (ht : (pc : Int) + off = (tg : Int)) (h1 : a < b → mm_G p l e R s mid args below meth c Q D ad cy A xs xn mc ms k kk nn (tg) L (st) m) (h2 : ¬ (a < b) → mm_G p l e R s mid args below meth c Q D ad cy A xs xn mc ms k kk nn (pc + 3) L (st) m) : mm_G p l e R s mid args below meth c Q D ad cy A xs xn mc ms k kk nn (pc) L (.inl b :: .inl a :: st) m := by
  intro H locs cells slots ls stk hP hcv hsv hS hl hs hc1 hc2
  match stk, hs with
  | _ :: _ :: stk, ⟨rfl, rfl, hs⟩ => exact lv_icmp_lt C.1 C.2.1 hd ht (fun hc => h1 hc H locs cells slots ls stk hP hcv hsv hS hl hs hc1 hc2) (fun hc => h2 hc H locs cells slots ls stk hP hcv hsv hS hl hs hc1 hc2)
theorem s_if_lt {a : Int32} {off : Int} {tg : Nat} (C : mm_Cx p s mid args meth c D ad cy A xs xn k) (hd : decode (mm_by k) pc = .ok (.ifCond .lt off, 3)) (ht : (pc : Int) + off = (tg : Int)) (h1 : a < (0 : Int32) → mm_G p l e R s mid args below meth c Q D ad cy A xs xn mc ms k kk nn (tg) L (st) m) (h2 : ¬ (a < (0 : Int32)) → mm_G p l e R s mid args below meth c Q D ad cy A xs xn mc ms k kk nn (pc + 3) L (st) m) : mm_G p l e R s mid args below meth c Q D ad cy A xs xn mc ms k kk nn (pc) L (.inl a :: st) m := by
  intro H locs cells slots ls stk hP hcv hsv hS hl hs hc1 hc2
  match stk, hs with
  | _ :: stk, ⟨rfl, hs⟩ => exact lv_if_lt C.1 C.2.1 hd ht (fun hc => h1 hc H locs cells slots ls stk hP hcv hsv hS hl hs hc1 hc2) (fun hc => h2 hc H locs cells slots ls stk hP hcv hsv hS hl hs hc1 hc2)
theorem s_icmp_ge {a b : Int32} {off : Int} {tg : Nat} (C : mm_Cx p s mid args meth c D ad cy A xs xn k) (hd : decode (mm_by k) pc = .ok (.if_icmp .ge off, 3)) (ht : (pc : Int) + off = (tg : Int)) (h1 : b ≤ a → mm_G p l e R s mid args below meth c Q D ad cy A xs xn mc ms k kk nn (tg) L (st) m) (h2 : ¬ (b ≤ a) → mm_G p l e R s mid args below meth c Q D ad cy A xs xn mc ms k kk nn (pc + 3) L (st) m) : mm_G p l e R s mid args below meth c Q D ad cy A xs xn mc ms k kk nn (pc) L (.inl b :: .inl a :: st) m := by
  intro H locs cells slots ls stk hP hcv hsv hS hl hs hc1 hc2
  match stk, hs with
  | _ :: _ :: stk, ⟨rfl, rfl, hs⟩ => exact lv_icmp_ge C.1 C.2.1 hd ht (fun hc => h1 hc H locs cells slots ls stk hP hcv hsv hS hl hs hc1 hc2) (fun hc => h2 hc H locs cells slots ls stk hP hcv hsv hS hl hs hc1 hc2)
theorem s_if_ge {a : Int32} {off : Int} {tg : Nat} (C : mm_Cx p s mid args meth c D ad cy A xs xn k) (hd : decode (mm_by k) pc = .ok (.ifCond .ge off, 3)) (ht : (pc : Int) + off = (tg : Int)) (h1 : (0 : Int32) ≤ a → mm_G p l e R s mid args below meth c Q D ad cy A xs xn mc ms k kk nn (tg) L (st) m) (h2 : ¬ ((0 : Int32) ≤ a) → mm_G p l e R s mid args below meth c Q D ad cy A xs xn mc ms k kk nn (pc + 3) L (st) m) : mm_G p l e R s mid args below meth c Q D ad cy A xs xn mc ms k kk nn (pc) L (.inl a :: st) m := by
  intro H locs cells slots ls stk hP hcv hsv hS hl hs hc1 hc2
  match stk, hs with
  | _ :: stk, ⟨rfl, hs⟩ => exact lv_if_ge C.1 C.2.1 hd ht (fun hc => h1 hc H locs cells slots ls stk hP hcv hsv hS hl hs hc1 hc2) (fun hc => h2 hc H locs cells slots ls stk hP hcv hsv hS hl hs hc1 hc2)
theorem s_icmp_gt {a b : Int32} {off : Int} {tg : Nat} (C : mm_Cx p s mid args meth c D ad cy A xs xn k) (hd : decode (mm_by k) pc = .ok (.if_icmp .gt off, 3)) (ht : (pc : Int) + off = (tg : Int)) (h1 : b < a → mm_G p l e R s mid args below meth c Q D ad cy A xs xn mc ms k kk nn (tg) L (st) m) (h2 : ¬ (b < a) → mm_G p l e R s mid args below meth c Q D ad cy A xs xn mc ms k kk nn (pc + 3) L (st) m) : mm_G p l e R s mid args below meth c Q D ad cy A xs xn mc ms k kk nn (pc) L (.inl b :: .inl a :: st) m := by
  intro H locs cells slots ls stk hP hcv hsv hS hl hs hc1 hc2
  match stk, hs with
  | _ :: _ :: stk, ⟨rfl, rfl, hs⟩ => exact lv_icmp_gt C.1 C.2.1 hd ht (fun hc => h1 hc H locs cells slots ls stk hP hcv hsv hS hl hs hc1 hc2) (fun hc => h2 hc H locs cells slots ls stk hP hcv hsv hS hl hs hc1 hc2)
theorem s_if_gt {a : Int32} {off : Int} {tg : Nat} (C : mm_Cx p s mid args meth c D ad cy A xs xn k) (hd : decode (mm_by k) pc = .ok (.ifCond .gt off, 3)) (ht : (pc : Int) + off = (tg : Int)) (h1 : (0 : Int32) < a → mm_G p l e R s mid args below meth c Q D ad cy A xs xn mc ms k kk nn (tg) L (st) m) (h2 : ¬ ((0 : Int32) < a) → mm_G p l e R s mid args below meth c Q D ad cy A xs xn mc ms k kk nn (pc + 3) L (st) m) : mm_G p l e R s mid args below meth c Q D ad cy A xs xn mc ms k kk nn (pc) L (.inl a :: st) m := by
  intro H locs cells slots ls stk hP hcv hsv hS hl hs hc1 hc2
  match stk, hs with
  | _ :: stk, ⟨rfl, hs⟩ => exact lv_if_gt C.1 C.2.1 hd ht (fun hc => h1 hc H locs cells slots ls stk hP hcv hsv hS hl hs hc1 hc2) (fun hc => h2 hc H locs cells slots ls stk hP hcv hsv hS hl hs hc1 hc2)
theorem s_icmp_le {a b : Int32} {off : Int} {tg : Nat} (C : mm_Cx p s mid args meth c D ad cy A xs xn k) (hd : decode (mm_by k) pc = .ok (.if_icmp .le off, 3)) (ht : (pc : Int) + off = (tg : Int)) (h1 : a ≤ b → mm_G p l e R s mid args below meth c Q D ad cy A xs xn mc ms k kk nn (tg) L (st) m) (h2 : ¬ (a ≤ b) → mm_G p l e R s mid args below meth c Q D ad cy A xs xn mc ms k kk nn (pc + 3) L (st) m) : mm_G p l e R s mid args below meth c Q D ad cy A xs xn mc ms k kk nn (pc) L (.inl b :: .inl a :: st) m := by
  intro H locs cells slots ls stk hP hcv hsv hS hl hs hc1 hc2
  match stk, hs with
  | _ :: _ :: stk, ⟨rfl, rfl, hs⟩ => exact lv_icmp_le C.1 C.2.1 hd ht (fun hc => h1 hc H locs cells slots ls stk hP hcv hsv hS hl hs hc1 hc2) (fun hc => h2 hc H locs cells slots ls stk hP hcv hsv hS hl hs hc1 hc2)
theorem s_if_le {a : Int32} {off : Int} {tg : Nat} (C : mm_Cx p s mid args meth c D ad cy A xs xn k) (hd : decode (mm_by k) pc = .ok (.ifCond .le off, 3)) (ht : (pc : Int) + off = (tg : Int)) (h1 : a ≤ (0 : Int32) → mm_G p l e R s mid args below meth c Q D ad cy A xs xn mc ms k kk nn (tg) L (st) m) (h2 : ¬ (a ≤ (0 : Int32)) → mm_G p l e R s mid args below meth c Q D ad cy A xs xn mc ms k kk nn (pc + 3) L (st) m) : mm_G p l e R s mid args below meth c Q D ad cy A xs xn mc ms k kk nn (pc) L (.inl a :: st) m := by
  intro H locs cells slots ls stk hP hcv hsv hS hl hs hc1 hc2
  match stk, hs with
  | _ :: stk, ⟨rfl, hs⟩ => exact lv_if_le C.1 C.2.1 hd ht (fun hc => h1 hc H locs cells slots ls stk hP hcv hsv hS hl hs hc1 hc2) (fun hc => h2 hc H locs cells slots ls stk hP hcv hsv hS hl hs hc1 hc2)
theorem s_goto {off : Int} {tg : Nat} (C : mm_Cx p s mid args meth c D ad cy A xs xn k) (hd : decode (mm_by k) pc = .ok (.goto off, 3)) (ht : (pc : Int) + off = (tg : Int)) (hG : mm_G p l e R s mid args below meth c Q D ad cy A xs xn mc ms k kk nn (tg) L (st) m) : mm_G p l e R s mid args below meth c Q D ad cy A xs xn mc ms k kk nn (pc) L (st) m := by
  intro H locs cells slots ls stk hP hcv hsv hS hl hs hc1 hc2
  exact lv_goto C.1 C.2.1 hd ht (hG H locs cells slots ls stk hP hcv hsv hS hl hs hc1 hc2)
theorem s_nonnull {off : Int} {tg : Nat} {r : Nat × Nat} (C : mm_Cx p s mid args meth c D ad cy A xs xn k) (hd : decode (mm_by k) pc = .ok (.ifnonnull off, 3)) (ht : (pc : Int) + off = (tg : Int)) (hG : mm_G p l e R s mid args below meth c Q D ad cy A xs xn mc ms k kk nn (tg) L (st) m) : mm_G p l e R s mid args below meth c Q D ad cy A xs xn mc ms k kk nn (pc) L (.inr (.inr (some r)) :: st) m := by
  intro H locs cells slots ls stk hP hcv hsv hS hl hs hc1 hc2
  match stk, hs with
  | w :: stk, ⟨h1, hs⟩ =>
    obtain ⟨q, rfl⟩ := mm_vr_some h1
    exact lv_ifnonnull C.1 C.2.1 hd ht (hG H locs cells slots ls stk hP hcv hsv hS hl hs hc1 hc2)
theorem s_nonnullN {off : Int} (C : mm_Cx p s mid args meth c D ad cy A xs xn k) (hd : decode (mm_by k) pc = .ok (.ifnonnull off, 3)) (hG : mm_G p l e R s mid args below meth c Q D ad cy A xs xn mc ms k kk nn (pc + 3) L (st) m) : mm_G p l e R s mid args below meth c Q D ad cy A xs xn mc ms k kk nn (pc) L (.inr (.inr none) :: st) m := by
  intro H locs cells slots ls stk hP hcv hsv hS hl hs hc1 hc2
  match stk, hs with
  | _ :: stk, ⟨rfl, hs⟩ => exact lv_ifnonnullN C.1 C.2.1 hd (hG H locs cells slots ls stk hP hcv hsv hS hl hs hc1 hc2)
end MMT
