/-! the law's start: its first steps, up to its loop -/
theorem st_end {pc : Nat} {L : List (Option mm_V)} {st : List mm_V} {m : mm_M} (hst : mm_step 289 (pc, L, st, m) = some (.inr (.inr (.inl (some (.inl 1)))))) : decode (mm_by 289) pc = .ok (.ireturn, 1) ∧ st = [.inl 1] := by
  obtain ⟨i, len, v, x, y, q, -, hd, Ok, hq, hact⟩ := mm_step_in hst (mm_kk 289 (by decide) pc)
  dsimp only at hact hd Ok
  have nocall : ∀ L', mm_call x y (pc + len) L' st m = some (.inr (.inr (.inl (some (.inl 1))))) → False := by
    intro L' h
    obtain ⟨-, ⟨-, hj⟩ | ⟨-, hj⟩⟩ := mm_call_in h
    · obtain ⟨S9, h9⟩ := mm_jdk_in hj
      cases h9
    · cases hj
  by_cases hi : mm_spec i = false
  · obtain ⟨S9, h9⟩ := mm_plain hi hact
    cases h9
  · cases i with
    | invokestatic a0 => exact (nocall _ hact).elim
    | invokevirtual a0 =>
      have h : (bif mm_recv x y st then mm_call x y (pc + len) (mm_mask q L) st m else none) = some (.inr (.inr (.inl (some (.inl 1))))) := hact
      cases hb : mm_recv x y st with
      | false => rw [hb] at h; cases h
      | true => rw [hb] at h; exact (nocall _ h).elim
    | ireturn =>
      have Ok := (Bool.and_eq_true _ _).mp Ok
      have e := Nat.eq_of_beq_eq_true Ok.1
      subst e
      rcases st with _ | ⟨b | b | b, _ | ⟨a, st⟩⟩
      · cases hact
      · cases x with
        | zero =>
          cases hact
          exact ⟨hd, rfl⟩
        | succ x9 =>
          have h : (if b = 0 ∨ b = 1 then some (.inr (.inr (.inl (some (.inl b))))) else none) = some (Sum.inr (Sum.inr (.inl (some (.inl 1)))) : mm_A) := hact
          split at h
          · cases h
            exact ⟨hd, rfl⟩
          · cases h
      · rcases a with a | a | a <;> cases hact
      · cases hact
      · cases hact
      · cases hact
      · cases hact
    | return_ =>
      rcases st with _ | ⟨b | b | b, _ | ⟨a | a | a, st⟩⟩ <;> cases hact
    | areturn =>
      rcases st with _ | ⟨b | b | _ | b, _ | ⟨a, st⟩⟩
      · cases hact
      · cases hact
      · rcases a with a | a | a <;> cases hact
      · cases hact
      · cases hact
      · cases hact
      · cases hact
      · cases hact
      · cases hact
    | new a0 =>
      rcases st with _ | ⟨b | b | b, _ | ⟨a | a | a, st⟩⟩ <;> cases hact
    | _ => exact absurd rfl hi
theorem st_by : mm_by 289 = code := rfl
theorem st_d0 : decode code 0 = .ok (.new 8, 3) := by decide +kernel
theorem st_d3 : decode code 3 = .ok (.dup, 1) := by decide +kernel
theorem st_d4 : decode code 4 = .ok (.invokespecial 124, 3) := by decide +kernel
theorem st_d7 : decode code 7 = .ok (.astore_n 1, 1) := by decide +kernel
theorem st_d8 : decode code 8 = .ok (.new 125, 3) := by decide +kernel
theorem st_d11 : decode code 11 = .ok (.dup, 1) := by decide +kernel
theorem st_d12 : decode code 12 = .ok (.invokespecial 127, 3) := by decide +kernel
theorem st_d15 : decode code 15 = .ok (.astore_n 2, 1) := by decide +kernel
theorem st_d16 : decode code 16 = .ok (.iconst 1, 1) := by decide +kernel
theorem st_d17 : decode code 17 = .ok (.newarray .long, 2) := by decide +kernel
theorem st_d19 : decode code 19 = .ok (.astore_n 3, 1) := by decide +kernel
theorem st_d20 : decode code 20 = .ok (.iconst 0, 1) := by decide +kernel
theorem st_d21 : decode code 21 = .ok (.istore 4, 2) := by decide +kernel
theorem st_w1 : Cond.classLink RL 8 "GlassThreads" ∈ lw_tbl := List.mem_of_getElem? (i := 172) (by decide +kernel)
theorem st_w2 : Cond.methodLink RL 124 ⟨"GlassThreads", "<init>", "()V"⟩ ∈ lw_tbl := List.mem_of_getElem? (i := 174) (by decide +kernel)
theorem st_w3 : Cond.classLink RL 125 "GlassThreadsModel" ∈ lw_tbl := List.mem_of_getElem? (i := 1565) (by decide +kernel)
theorem st_w4 : Cond.methodLink RL 127 ⟨"GlassThreadsModel", "<init>", "()V"⟩ ∈ lw_tbl := List.mem_of_getElem? (i := 1567) (by decide +kernel)
theorem st_wi : Cond.initialized "GlassThreads" ∈ lw_tbl := List.mem_of_getElem? (i := 146) (by decide +kernel)
theorem st_wj : Cond.initialized "GlassThreadsModel" ∈ lw_tbl := List.mem_of_getElem? (i := 159) (by decide +kernel)
section STP
variable {p : Program} {l : Launch} {e : Env} {R : Room} {s : State} {mid : MethodId} {args : Array Value} {below : List Frame} {meth : Method} {c : Code} {Q : State → Prop} {D : va_G} {tx : Nat → Nat} {cy : Nat → ClassId} {z0 n0 : Nat} {ad0 : Nat → Nat} {hp : cc_H} {cells slots pc : Nat} {ls : Array Slot} {rest : List Value} {H : Heap} {locs : List Loc}
/-- what the law's first steps rest on -/
def st_Cx (p : Program) (s : State) (mid : MethodId) (args : Array Value) (c : Code) (D : va_G) (tx : Nat → Nat) (cy : Nat → ClassId) (z0 : Nat) : Prop :=
  p.tables.exec = Jvm.exec ∧ c.code = code ∧ c.maxLocals = 7 ∧ s.vm.findClass RL = some mid.cls ∧ (∀ w ∈ lw_tbl, w.before args s = true) ∧ mm_Wd D (fun _ n => tx n) cy (fun q => z0 ≤ q) s ∧ z0 ≤ s.heap.size ∧ cc_Ao s
theorem st_ts (C : st_Cx p s mid args c D tx cy z0) : ∀ w ∈ mm_tsG, w.before args s = true := fun w hw => C.2.2.2.2.1 w (List.mem_filter.mp hw).1
theorem st_new {idx x : Nat} {ad : Nat → Nat} (C : st_Cx p s mid args c D tx cy z0) (hR : cells + 1 ≤ R.cells ∧ slots + (cc_df x).length ≤ R.slots) (hd : decode code pc = .ok (.new idx, 3)) (hx : x < 13) (hl : Cond.classLink RL idx (cc_rn x) ∈ lw_tbl) (hB : cc_B D tx cy z0 ad0 n0 hp ad H) (hS : va_S (fun q => z0 ≤ q) s.heap H locs)
    (kk : ∀ (q : Nat) (H1 : Heap), cc_B D tx cy z0 ad0 n0 (hp ++ [.inl (x, cc_df x)]) (cc_up ad hp.length q) H1 → va_S (fun q => z0 ≤ q) s.heap H1 locs → W p l e R s mid args below meth c H1 locs (cells + 1) (slots + (cc_df x).length) Q (F0 mid (pc + 3) ls (.ref q :: rest))) : W p l e R s mid args below meth c H locs cells slots Q (F0 mid pc ls rest) := by
  obtain ⟨C9, T, N, ty0, h1, h2, h3, h4, h5, h6, h7⟩ := cc_cls_in hx
  have hk := cc_kok x hx
  refine va_new C.1 C.2.1 (st_ts C) h6 ty0 h4 C.2.2.2.1 (C.2.2.2.2.1 _ (by rw [h2]; exact hl)) (C.2.2.2.2.1 _ (by rw [h2, h3]; exact hk.2.2.2.1)) (C.2.2.2.2.1 _ (by rw [h2]; exact hk.1)) C.2.2.2.2.2.1.1 hB.2.2.2.1 hB.2.2.2.2 hS (fun q hq => Nat.le_trans C.2.2.2.2.2.2.1 hq) h1 (h7 ad tx) (by omega) (by omega) hd (fun q H1 hP hD hS1 => ?_)
  have hdf : ∀ z : Nat → Nat, (cc_df x).map (cc_v z tx) = (cc_df x).map (cc_v ad tx) := fun z => by
    refine List.map_congr_left (fun v hv => ?_)
    have h9 := List.all_eq_true.mp cc_cls x (List.mem_range.mpr hx)
    rw [h1] at h9
    have h9 := (Bool.and_eq_true _ _).mp ((Bool.and_eq_true _ _).mp h9).2
    obtain ⟨j, hj⟩ := List.getElem?_of_mem hv
    have hjl := (List.getElem?_eq_some_iff.mp hj).1
    have h10 := List.all_eq_true.mp h9.2 j (List.mem_range.mpr (by rw [h3]; exact hjl))
    rw [hj] at h10
    rcases v with v | _ | v
    · rfl
    · rfl
    · split at h10
      · rename_i e1 e2; cases e2
      · rename_i e1 e2; cases e2
      · rename_i e1 e2; cases e2
      · rename_i e1 e2; cases e2
      · cases h10
  have heb : cc_eb (hp.length + 1) (.inl (x, cc_df x)) = true := by
    refine List.all_eq_true.mpr (fun v hv => ?_)
    have h9 := List.all_eq_true.mp cc_cls x (List.mem_range.mpr hx)
    rw [h1] at h9
    have h9 := (Bool.and_eq_true _ _).mp ((Bool.and_eq_true _ _).mp h9).2
    obtain ⟨j, hj⟩ := List.getElem?_of_mem hv
    have hjl := (List.getElem?_eq_some_iff.mp hj).1
    have h10 := List.all_eq_true.mp h9.2 j (List.mem_range.mpr (by rw [h3]; exact hjl))
    rw [hj] at h10
    rcases v with v | _ | v
    · rfl
    · rfl
    · split at h10
      · rename_i e1 e2; cases e2
      · rename_i e1 e2; cases e2
      · rename_i e1 e2; cases e2
      · rename_i e1 e2; cases e2
      · cases h10
  rw [h3]
  exact kk q H1 (hB.push heb (by rw [cc_e_obj, hdf]) hP hD) hS1
theorem st_ctor {idx x i d : Nat} {ad : Nat → Nat} {r : cc_R} (C : st_Cx p s mid args c D tx cy z0) (hR : d + 17 ≤ R.frames ∧ 64 * d + 464 ≤ R.locals ∧ cells + r.2.1 ≤ R.cells ∧ slots + r.2.2 ≤ R.slots) (hd : decode code pc = .ok (.invokespecial idx, 3)) (hm : Cond.methodLink RL idx (cc_yn x) ∈ lw_tbl) (hx : x < 13) (hi : i < hp.length) (hst : (rest.map fun v => v.category).sum ≤ 8) (hls : ls.size = 7) (hcon : cc_Con l D tx cy z0 d x [.inr (some (.inl i))] hp r) (hB : cc_B D tx cy z0 ad0 n0 hp ad H) (hS : va_S (fun q => z0 ≤ q) s.heap H locs)
    (kk : ∀ (ad' : Nat → Nat) (H1 : Heap) (locs1 : List Loc), (∀ j, j < hp.length → ad' j = ad j) → cc_B D tx cy z0 ad0 n0 r.1 ad' H1 → va_S (fun q => z0 ≤ q) s.heap H1 locs1 → W p l e R s mid args below meth c H1 locs1 (cells + r.2.1) (slots + r.2.2) Q (F0 mid (pc + 3) ls rest)) : W p l e R s mid args below meth c H locs cells slots Q (F0 mid pc ls (.ref (ad i) :: rest)) := by
  have hk := cc_kok x hx
  have hini : (Cond.initialized (cc_yn x).cls).before args s = true := C.2.2.2.2.1 _ (by rw [hk.2.2.2.2.1]; exact hk.1)
  have hpre : ∀ U : State, U.heap = H → s.WarmedH U.vm → cc_Pc D tx cy z0 ad [.inr (some (.inl i))] hp ([Value.ref (ad i)] : List Value).toArray U := by
    intro U hU hW
    refine ⟨⟨[.ref (ad i)], rfl, ⟨⟨Nat.ble_eq_true_of_le hi, rfl⟩, trivial⟩⟩, by rw [hU]; exact Nat.le_trans C.2.2.2.2.2.2.1 hS.1, ?_, ?_, cc_Ao.moved hW.alike C.2.2.2.2.2.2.2⟩
    · rw [hU]
      exact ⟨fun _ _ => rfl, Nat.le_refl _, hB.2.2.1, hB.2.2.2.1, hB.2.2.2.2⟩
    · exact C.2.2.2.2.2.1.warm (H0 := H) hW (fun a ha hna => by rw [hU]; exact hS.2.1 a ha hna) (fun q h => h)
  refine va_callv (va_runI (nL := 7) (As := []) (rest := rest) (Ts := mm_tsG) ⟨C.1, C.2.1, C.2.2.1, C.2.2.2.1, st_ts C⟩ (hcon ad) ⟨callB_of (Ts := mm_tsG) 0 (st_ts C) (cc_wk_good (by omega)) rfl rfl rfl hini (C.2.2.2.2.1 _ hm) ⟨hk.2.2.2.2.2.2.1, hk.2.2.2.2.2.2.2.1, hk.2.2.2.2.2.2.2.2⟩ ⟨mm_room0 (by omega), mm_room1 hk.2.1.2 (by omega)⟩, hk.2.2.2.2.2.1, C.2.2.2.2.1 _ hk.2.2.1⟩ ⟨cc_blind _ _ _ _ _ _ _, hpre⟩ rfl rfl hls rfl (lv_room hst) hd ⟨by omega, by omega⟩) hS (fun q _ h => h) (fun q h => h) (fun ad' t H1 locs1 ht hvm _ hB1 hz1 hk1 hS1 => ?_)
  rw [ht] at hB1
  exact kk ad' H1 locs1 hB1.1 ⟨fun j hj => by rw [hB1.1 j (Nat.lt_of_lt_of_le hj hB.2.1)]; exact hB.1 j hj, Nat.le_trans hB.2.1 hB1.2.1, hB1.2.2.1, hB1.2.2.2.1, hB1.2.2.2.2⟩ hS1
end STP
