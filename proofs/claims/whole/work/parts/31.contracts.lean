/-! contracts of the little machine's methods on the JVM: returns, throws, calls -/
def mm_xn (e : Nat) : String := match e with
  | 0 => "java/lang/IllegalArgumentException"
  | _ => "java/util/NoSuchElementException"
def mm_or (ad : Nat → Nat → Nat) (o : mm_O) (vo : Option Value) : Prop := match o with
  | .inl none => vo = none
  | .inl (some v) => ∃ w, vo = some w ∧ mm_vr ad v w
  | .inr _ => False
def mm_B (D : va_G) (ad : Nat → Nat → Nat) (cy : Nat → ClassId) (xs : Nat → Int32) (xn : Nat) (m : mm_M) (H : Heap) : Prop := va_P D vwCl (mm_ws ad cy m) H ∧ mm_cv m ∧ mm_sv xs xn m
def mm_Qc (D : va_G) (ad : Nat → Nat → Nat) (cy : Nat → ClassId) (xs : Nat → Int32) (xn : Nat) (o : mm_O) (m' : mm_M) (A : Nat → Prop) : Array Value → State → Outcome → State → Prop := fun _ st oc t => (∃ vo, oc = .returned vo ∧ mm_or ad o vo ∧ mm_B D ad cy xs xn m' t.heap) ∧ va_F A st t
def mm_XC (D : va_G) (ad : Nat → Nat → Nat) (cy : Nat → ClassId) (xs : Nat → Int32) (xn : Nat) (o : mm_O) (m' : mm_M) (A : Nat → Prop) : String → State → State → Prop := fun E st t => (∃ e, o = .inr e ∧ E = mm_xn e) ∧ mm_B D ad cy xs xn m' t.heap ∧ va_F A st t
def mm_Aw (ad : Nat → Nat → Nat) (sz : Nat) (q : Nat) : Prop := (∃ g i, (g, i) ∈ mm_cl ∧ q = ad g i) ∨ sz ≤ q
def mm_Xs (ad : Nat → Nat → Nat) (xs : Nat → Int32) (xn : Nat) (A : Nat → Prop) (U : State) : Prop := va_X (ad mm_gX 0) xn xs U U.heap ∧ ad mm_gX 0 < U.heap.size ∧ ¬ A (ad mm_gX 0)
def mm_Pc (D : va_G) (ad : Nat → Nat → Nat) (cy : Nat → ClassId) (xs : Nat → Int32) (xn : Nat) (as : List mm_V) (m : mm_M) (sz : Nat) : Array Value → State → Prop := fun v U => (∃ ws : List Value, v = ws.toArray ∧ mm_sr ad as ws) ∧ U.heap.size = sz ∧ mm_B D ad cy xs xn m U.heap ∧ mm_Wd D ad cy (mm_Aw ad sz) U ∧ mm_Xs ad xs xn (mm_Aw ad sz) U
def mm_rm (d kk nn : Nat) : Room := { frames := d + 16, cells := kk, slots := nn, locals := 64 * d + 400 }
def mm_wk (k : Nat) : List Cond := Cond.code (mm_yn k) (mm_by k) (mm_mt k).2.2.2 (mm_rt k) :: mm_tsG
/-- the contract of a method that ends so -/
def mm_Con (l : Launch) (D : va_G) (ad : Nat → Nat → Nat) (cy : Nat → ClassId) (xs : Nat → Int32) (xn d k : Nat) (as : List mm_V) (m : mm_M) (o : mm_O) (m' : mm_M) (kk nn : Nat) : Prop :=
  ∀ sz, vx_Met l (mm_yn k) (mm_wk k) (mm_rm d kk nn) (mm_Pc D ad cy xs xn as m sz) (mm_Qc D ad cy xs xn o m' (mm_Aw ad sz)) (mm_XC D ad cy xs xn o m' (mm_Aw ad sz)) kk nn (mm_Aw ad sz)
/-- the world moves with the tables -/
theorem mm_Wd.warm {D : va_G} {ad : Nat → Nat → Nat} {cy : Nat → ClassId} {A : Nat → Prop} {s U : State} {H0 : Heap} (hW : s.WarmedH U.vm) (h : mm_Wd D ad cy A s) (hk : ∀ a : Nat, a < s.heap.size → ¬ A a → U.heap[a]? = s.heap[a]?) {B : Nat → Prop} (hB : ∀ q, B q → A q) : mm_Wd D ad cy B U := by
  obtain ⟨h1, h2, ⟨h3, h4⟩, h5, h6, ⟨adV, h7⟩, h8⟩ := h
  refine ⟨va_K.moved hW.alike h1, fun w hw hn => ?_, ⟨?_, ?_⟩, fun n c i tx ht => vk_R.warm hW (h5 n c i tx ht), fun c i tx ht => ?_, ⟨adV, fun n hn => (h7 n hn).go hk hB rfl hW.alike⟩, va_Nc.moved hW.alike h8.1, va_Nc.moved hW.alike h8.2⟩
  · have h9 := h2 w hw hn
    unfold mm_nw at hn
    split at hn
    · exact va_Nw.warmF hW h9
    · exact va_Nw.warmM hW h9
    · exact va_Nw.warmC hW h9
    · exact va_Nw.warmD hW h9
    · cases hn
  · exact ((vx_Zq.moved hW.alike h3).kept hk).narrow hB
  · exact ((vx_Zq.moved hW.alike h4).kept hk).narrow hB
  · obtain ⟨sa, h9⟩ := h6 c i tx ht
    exact ⟨sa, vk_R.warm hW h9⟩
theorem mm_Wd.calling {D : va_G} {ad : Nat → Nat → Nat} {cy : Nat → ClassId} {A : Nat → Prop} {U : State} {g : JFrame} {mk : MethodId} {a : Array Value} (h : mm_Wd D ad cy A U) : mm_Wd D ad cy A (U.calling g mk a) := by
  obtain ⟨h1, h2, ⟨h3, h4⟩, h5, h6, ⟨adV, h7⟩, h8⟩ := h
  refine ⟨va_K.moved (u := U) (U := U.calling g mk a) (Vm.Alike.refl U.vm) h1, fun w hw hn => ?_, ⟨?_, ?_⟩, fun n c i tx ht => vk_R.same (u := U) rfl (h5 n c i tx ht), fun c i tx ht => ?_, ⟨adV, fun n hn => (h7 n hn).calling⟩, va_Nc.moved (u := U) (U := U.calling g mk a) (Vm.Alike.refl U.vm) h8.1, va_Nc.moved (u := U) (U := U.calling g mk a) (Vm.Alike.refl U.vm) h8.2⟩
  · have h9 := h2 w hw hn
    unfold mm_nw at hn
    split at hn
    · exact va_Nw.same rfl (u := U) rfl h9
    · exact va_Nw.same rfl (u := U) rfl h9
    · exact va_Nw.same rfl (u := U) rfl h9
    · exact va_Nw.same rfl (u := U) rfl h9
    · cases hn
  · exact vx_Zq.moved (u := U) (Vm.Alike.refl U.vm) h3
  · exact vx_Zq.moved (u := U) (Vm.Alike.refl U.vm) h4
  · obtain ⟨sa, h9⟩ := h6 c i tx ht
    exact ⟨sa, vk_R.same (u := U) rfl h9⟩
theorem mm_blind (D : va_G) (ad : Nat → Nat → Nat) (cy : Nat → ClassId) (xs : Nat → Int32) (xn : Nat) (as : List mm_V) (m : mm_M) (sz : Nat) : FrameBlind (mm_Pc D ad cy xs xn as m sz) := by
  intro a U g mk h
  obtain ⟨h1, h2, h3, h4, h5, h6, h7⟩ := h
  exact ⟨h1, h2, h3, h4.calling, va_X.moved (u := U) (Vm.Alike.refl U.vm) h5, h6, h7⟩
section MMC
variable {p : Program} {l : Launch} {e : Env} {R : Room} {s : State} {mid : MethodId} {args : Array Value} {below : List Frame} {meth : Method} {c : Code} {Q : State → Prop} {D : va_G} {ad : Nat → Nat → Nat} {cy : Nat → ClassId} {A : Nat → Prop} {xs : Nat → Int32} {xn : Nat} {mc ms : Nat} {k : Nat} {kk nn : Nat} {pc : Nat} {L : List (Option mm_V)} {st : List mm_V} {m : mm_M}
theorem mm_sr1 {v : mm_V} {stk : List Value} (h : mm_sr ad [v] stk) : ∃ w, stk = [w] ∧ mm_vr ad v w := by
  match stk, h with
  | [w], ⟨h1, _⟩ => exact ⟨w, rfl, h1⟩
theorem s_iret {a : Int32} (C : mm_Cx p s mid args meth c D ad cy A xs xn k) (hd : decode (mm_by k) pc = .ok (.ireturn, 1)) (hr : mm_rt k = some .int) : mm_G p l e R s mid args below meth c (vx_MQ below (mm_Qc D ad cy xs xn (.inl (some (.inl a))) m A) (mm_XC D ad cy xs xn (.inl (some (.inl a))) m A) args s mc ms A) D ad cy A xs xn mc ms k 0 0 pc L [.inl a] m := by
  intro H locs cells slots ls stk hP hcv hsv hS hl hs hc1 hc2
  obtain ⟨w, rfl, rfl⟩ := mm_sr1 hs
  refine W.widen (k := mc) (n := ms) (by omega) (by omega) (vx_ret ?_)
  exact W.iret C.1 C.2.1 (C.2.2.2.2.2.2.2.1.trans hr) (fun t ht hw => ⟨⟨_, rfl, ⟨_, rfl, rfl⟩, by rw [ht]; exact ⟨hP, hcv, hsv⟩⟩, hS.F ht⟩) (fun q hq => hS.2.2 q hq) hd C.2.2.2.2.2.2.2.2.1
theorem s_zret {a : Int32} (C : mm_Cx p s mid args meth c D ad cy A xs xn k) (hd : decode (mm_by k) pc = .ok (.ireturn, 1)) (hr : mm_rt k = some .boolean) (h01 : a = 0 ∨ a = 1) : mm_G p l e R s mid args below meth c (vx_MQ below (mm_Qc D ad cy xs xn (.inl (some (.inl a))) m A) (mm_XC D ad cy xs xn (.inl (some (.inl a))) m A) args s mc ms A) D ad cy A xs xn mc ms k 0 0 pc L [.inl a] m := by
  intro H locs cells slots ls stk hP hcv hsv hS hl hs hc1 hc2
  obtain ⟨w, rfl, rfl⟩ := mm_sr1 hs
  refine W.widen (k := mc) (n := ms) (by omega) (by omega) (vx_ret ?_)
  exact W.zret C.1 C.2.1 (C.2.2.2.2.2.2.2.1.trans hr) (by rcases h01 with rfl | rfl <;> rfl) (fun t ht hw => ⟨⟨_, rfl, ⟨_, rfl, rfl⟩, by rw [ht]; exact ⟨hP, hcv, hsv⟩⟩, hS.F ht⟩) (fun q hq => hS.2.2 q hq) hd C.2.2.2.2.2.2.2.2.1
theorem s_vret (C : mm_Cx p s mid args meth c D ad cy A xs xn k) (hd : decode (mm_by k) pc = .ok (.return_, 1)) (hr : mm_rt k = none) : mm_G p l e R s mid args below meth c (vx_MQ below (mm_Qc D ad cy xs xn (.inl none) m A) (mm_XC D ad cy xs xn (.inl none) m A) args s mc ms A) D ad cy A xs xn mc ms k 0 0 pc L [] m := by
  intro H locs cells slots ls stk hP hcv hsv hS hl hs hc1 hc2
  match stk, hs with
  | [], _ =>
    refine W.widen (k := mc) (n := ms) (by omega) (by omega) (vx_ret ?_)
    exact W.vret C.1 C.2.1 (C.2.2.2.2.2.2.2.1.trans hr) (fun t ht hw => ⟨⟨_, rfl, rfl, by rw [ht]; exact ⟨hP, hcv, hsv⟩⟩, hS.F ht⟩) (fun q hq => hS.2.2 q hq) hd C.2.2.2.2.2.2.2.2.1
theorem s_aret {r : Nat × Nat} (C : mm_Cx p s mid args meth c D ad cy A xs xn k) (hd : decode (mm_by k) pc = .ok (.areturn, 1)) (hr : ∃ n, mm_rt k = some (.object n)) : mm_G p l e R s mid args below meth c (vx_MQ below (mm_Qc D ad cy xs xn (.inl (some (.inr (.inr (some r))))) m A) (mm_XC D ad cy xs xn (.inl (some (.inr (.inr (some r))))) m A) args s mc ms A) D ad cy A xs xn mc ms k 0 0 pc L [.inr (.inr (some r))] m := by
  intro H locs cells slots ls stk hP hcv hsv hS hl hs hc1 hc2
  obtain ⟨w, rfl, hv⟩ := mm_sr1 hs
  obtain ⟨q, rfl⟩ := mm_vr_some hv
  obtain ⟨n, hn⟩ := hr
  refine W.widen (k := mc) (n := ms) (by omega) (by omega) (vx_ret ?_)
  exact W.aret C.1 C.2.1 (C.2.2.2.2.2.2.2.1.trans hn) (Or.inl ⟨n, rfl⟩) (Or.inr ⟨q, rfl⟩) (fun t ht hw => ⟨⟨_, rfl, ⟨_, rfl, hv⟩, by rw [ht]; exact ⟨hP, hcv, hsv⟩⟩, hS.F ht⟩) (fun q hq => hS.2.2 q hq) hd C.2.2.2.2.2.2.2.2.1
/-- behind a call -/
theorem mm_callk {H : Heap} {locs : List Loc} {cells slots k1 n1 : Nat} {ls : Array Slot} {stk0 rest : List Value} {o : mm_O} {m1 : mm_M} {A1 free : Nat → Prop} {a : Array Value} (hr : vx_Run p l e R s mid args below meth c H locs cells slots k1 n1 (F0 mid pc ls stk0) rest (mm_Qc D ad cy xs xn o m1 A1 a) (mm_XC D ad cy xs xn o m1 A1) free) (hS : va_S A s.heap H locs) (hA1 : ∀ q, A1 q → A q) (hf : ∀ q, free q → A q)
    (kret : ∀ (vo : Option Value) (H1 : Heap) (locs1 : List Loc), mm_or ad o vo → mm_B D ad cy xs xn m1 H1 → va_S A s.heap H1 locs1 → W p l e R s mid args below meth c H1 locs1 (cells + k1) (slots + n1) Q (F0 mid (pc + 3) ls (vo.toList ++ rest)))
    (kthr : ∀ (x : Nat) (q : Addr) (ce : Cell) (H1 : Heap) (locs1 : List Loc), o = .inr x → mm_B D ad cy xs xn m1 H1 → va_S A s.heap H1 locs1 → H1[q]? = some ce → ce.vm = .none → s.vm.findClass (mm_xn x) = some ce.cls → vx_W p l e R s mid args below meth c H1 locs1 (cells + k1) (slots + n1) Q (F0 mid pc ls rest) q) : W p l e R s mid args below meth c H locs cells slots Q (F0 mid pc ls stk0) := by
  intro T hT X
  rcases hr T hT X with ⟨v, st₀, t, T', L1, h0, X', hL, e1, e2, ⟨⟨vo, hv, ho, hb⟩, hF⟩, stp⟩ | ⟨q, st₀, t, T', L1, E, ce, h0, X', hL, e1, e2, ⟨⟨x, hx, rfl⟩, hb, hF⟩, hce, hcv, hcl, stp⟩
  · cases hv
    obtain ⟨k1, k2, k3⟩ := vx_keep h0 e1 hS (fun q _ h => hA1 q h) hf hL hF
    obtain ⟨t2, a1, b1⟩ := kret v T'.heap (locs ++ L1) ho (by rw [e1]; exact hb) k3 T' rfl X'
    exact ⟨t2, stp t2 a1, b1⟩
  · obtain ⟨k1, k2, k3⟩ := vx_keep h0 e1 hS (fun q _ h => hA1 q h) hf hL hF
    obtain ⟨t2, a1, b1⟩ := kthr x q ce T'.heap (locs ++ L1) hx (by rw [e1]; exact hb) k3 (by rw [e1]; exact hce) hcv hcl T' rfl X'
    exact ⟨t2, stp.trans a1, b1⟩
/-- the callee's start, from the caller's -/
theorem mm_pre {H : Heap} {locs : List Loc} {as : List mm_V} {As : List Value} {sz : Nat} (C : mm_Cx p s mid args meth c D ad cy A xs xn k) (hA : ∀ q, mm_Aw ad H.size q → A q) (hP : va_P D vwCl (mm_ws ad cy m) H) (hcv : mm_cv m) (hsv : mm_sv xs xn m) (hS : va_S A s.heap H locs) (hs : mm_sr ad as As) : ∀ U : State, U.heap = H → s.WarmedH U.vm → mm_Pc D ad cy xs xn as m H.size As.toArray U := by
  intro U hU hW
  have hk : ∀ a : Nat, a < s.heap.size → ¬ A a → U.heap[a]? = s.heap[a]? := fun a h1 h2 => by rw [hU]; exact hS.2.1 a h1 h2
  obtain ⟨x1, x2, x3⟩ := C.2.2.2.2.2.2.2.2.2.2
  refine ⟨⟨As, rfl, hs⟩, by rw [hU], by rw [hU]; exact ⟨hP, hcv, hsv⟩, mm_Wd.warm (H0 := H) hW C.2.2.2.2.2.1 hk hA, ?_, ?_, fun z => x3 (hA _ z)⟩
  · exact va_X.kept (va_X.moved hW.alike x1) (hk _ x2 x3)
  · rw [hU]; exact Nat.lt_of_lt_of_le x2 hS.1
end MMC
