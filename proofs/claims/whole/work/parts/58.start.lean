/-! the law's start: the walk up to its loop, and its loop by the little machine -/
theorem st_ad_X {ad tx : Nat → Nat} {b : Nat} : st_ad ad tx b mm_gX 0 = b := by
  unfold st_ad
  rw [if_neg (by decide), if_pos rfl]
/-- the locals at the loop's head -/
def st_L : List (Option mm_V) := [some (.inr (.inr (some (mm_gX, 0)))), some (.inr (.inr (some (0, 0)))), some (.inr (.inr (some (12, 0)))), some (.inr (.inr (some (mm_gO, 0)))), some (.inl 0), none, none]
theorem st_p0 : st_p 0 0 = 0 := by decide +kernel
theorem st_p1 : st_p 12 0 = 150 := by decide +kernel
theorem st_p2 : st_p mm_gO 0 = 220 := by decide +kernel
theorem st_h1l : cc_h1.length = 150 := by decide +kernel
theorem st_h2l : cc_h2.length = 220 := by decide +kernel
theorem st_c0 : (0, 0) ∈ mm_cl := by decide +kernel
theorem st_c1 : (12, 0) ∈ mm_cl := by decide +kernel
theorem st_c2 : (mm_gO, 0) ∈ mm_cl := by decide +kernel
theorem st_lr {ad tx : Nat → Nat} {b a1 a2 a3 : Nat} {ls : Array Slot} (h : lv_has ls 7 [(4, .int 0), (3, .ref a3), (2, .ref a2), (1, .ref a1), (0, .ref b)]) (h1 : ad 0 = a1) (h2 : ad 150 = a2) (h3 : ad 220 = a3) : mm_lr (st_ad ad tx b) ls 7 st_L := by
  refine ⟨h.1, h.2.1, rfl, fun k v hk => ?_⟩
  have hc : ∀ g, (g, 0) ∈ mm_cl → g < 134 → st_ad ad tx b g 0 = ad (st_p g 0) := fun g _ hg => st_ad_lt hg 0
  match k, hk with
  | 0, hk =>
    cases hk
    refine ⟨trivial, .ref b, h.2.2 (0, .ref b) (by simp), ?_⟩
    show (if mm_gX = 999 then ∃ q, Value.ref b = .ref q else mm_vld mm_gX 0 ∧ Value.ref b = .ref (st_ad ad tx b mm_gX 0))
    rw [if_neg (by decide), st_ad_X]
    exact ⟨Or.inr (Or.inr ⟨rfl, rfl⟩), rfl⟩
  | 1, hk =>
    cases hk
    refine ⟨trivial, .ref a1, h.2.2 (1, .ref a1) (by simp), ?_⟩
    show (if 0 = 999 then ∃ q, Value.ref a1 = .ref q else mm_vld 0 0 ∧ Value.ref a1 = .ref (st_ad ad tx b 0 0))
    rw [if_neg (by decide), hc 0 st_c0 (by decide), st_p0, h1]
    exact ⟨Or.inl st_c0, rfl⟩
  | 2, hk =>
    cases hk
    refine ⟨trivial, .ref a2, h.2.2 (2, .ref a2) (by simp), ?_⟩
    show (if 12 = 999 then ∃ q, Value.ref a2 = .ref q else mm_vld 12 0 ∧ Value.ref a2 = .ref (st_ad ad tx b 12 0))
    rw [if_neg (by decide), hc 12 st_c1 (by decide), st_p1, h2]
    exact ⟨Or.inl st_c1, rfl⟩
  | 3, hk =>
    cases hk
    refine ⟨trivial, .ref a3, h.2.2 (3, .ref a3) (by simp), ?_⟩
    show (if mm_gO = 999 then ∃ q, Value.ref a3 = .ref q else mm_vld mm_gO 0 ∧ Value.ref a3 = .ref (st_ad ad tx b mm_gO 0))
    rw [if_neg (by decide), hc mm_gO st_c2 (by decide), st_p2, h3]
    exact ⟨Or.inl st_c2, rfl⟩
  | 4, hk =>
    cases hk
    exact ⟨trivial, .int 0, h.2.2 (4, .int 0) (by simp), rfl⟩
  | 5, hk => cases hk
  | 6, hk => cases hk
  | k + 7, hk => cases hk
/-- the pure run that is left to find -/
def st_Run (xs : Nat → Int32) (L : Nat) : Prop := ∃ (n d : Nat) (m' : mm_M) (kk nn : Nat), mm_run n d 289 (23, st_L, [], st_m0 xs L) = some (.inl (some (.inl 1)), m', kk, nn) ∧ d ≤ 1000 ∧ kk ≤ 600000 ∧ nn ≤ 7200000
section STQ
variable {p : Program} {l : Launch} {e : Env} {s : State} {mid : MethodId} {below : List Frame} {meth : Method} {c : Code} {Q : State → Prop} {D : va_G} {tx : Nat → Nat} {cy : Nat → ClassId} {b L cells slots : Nat} {ls : Array Slot} {xs : Nat → Int32} {H : Heap} {locs : List Loc}
theorem st_loop (hfl : l.stackTraces = false) (hL : L ≤ 4608) (C : st_Cx p s mid #[Value.ref b] c D tx cy s.heap.size) (hret : meth.sig.returnType = ret) (hlk : meth.locks = false) (hX : va_X b L xs s s.heap) (hbl : b < s.heap.size) (hnil : c.exceptionTable.toList = []) (hrun : st_Run xs L)
    (hQ : ∀ (pc : Nat) (H : Heap) (ls : Array Slot), decode code pc = .ok (.ireturn, 1) → W p l e room_1 s mid #[Value.ref b] below meth c H [] 601024 7293034 Q (F0 mid pc ls [.int 1]))
    {ad0 ad : Nat → Nat} {n0 : Nat} (hB : cc_B D tx cy s.heap.size ad0 n0 cc_h3 ad H) (hS : va_S (fun q => s.heap.size ≤ q) s.heap H locs) {a1 a2 a3 : Nat} (hl : lv_has ls 7 [(4, .int 0), (3, .ref a3), (2, .ref a2), (1, .ref a1), (0, .ref b)]) (h1 : ad 0 = a1) (h2 : ad 150 = a2) (h3 : ad 220 = a3) (hc : cells ≤ 1024) (hs : slots ≤ 93034) : W p l e room_1 s mid #[Value.ref b] below meth c H locs cells slots Q (F0 mid 23 ls []) := by
  obtain ⟨n, d, m', kk, nn, hr, hd, hk, hn⟩ := hrun
  have hap : mm_Ap (st_ad ad tx b) cy := fun m => (st_D hB.2.2.2.2 m).weaken (fun _ _ _ _ => trivial)
  have hAw : ∀ q, mm_Aw (st_ad ad tx b) s.heap.size q → s.heap.size ≤ q := by
    intro q h
    rcases h with ⟨g, i, hg, rfl⟩ | h
    · obtain ⟨z, hz⟩ := mm_pos hg
      exact (st_D (b := b) hB.2.2.2.2 (st_m0 xs L)).2 z _ (mm_ws_at hz)
    · exact h
  have Cx : mm_Cx p s mid #[Value.ref b] meth c D (st_ad ad tx b) cy (fun q => s.heap.size ≤ q) xs L 289 := ⟨C.1, C.2.1.trans st_by.symm, C.2.2.1, C.2.2.2.1, fun w hw _ => C.2.2.2.2.1 w hw, st_Wd (fun n _ => st_ad_S n) C.2.2.2.2.2.1, fun m => st_D hB.2.2.2.2 m, hret, hlk, fun q h => h, by rw [st_ad_X]; exact ⟨hX, hbl, fun h => Nat.lt_irrefl _ (Nat.lt_of_lt_of_le hbl h)⟩⟩
  have hG := (mm_sound hfl (D := D) (xs := xs) (xn := L) (by omega) hap n d 289 _ _ hr (by decide)).1 p e room_1 s mid #[Value.ref b] below meth c Q (fun q => s.heap.size ≤ q) 601024 7293034 Cx hnil hAw ⟨by show d + 16 ≤ 2048; omega, by show 64 * d + 400 ≤ 84000; omega, Nat.le_refl _, Nat.le_refl _⟩
    (by
      intro pc L' st hst
      obtain ⟨hd9, rfl⟩ := st_end hst
      intro H9 locs9 c9 s9 ls9 stk hP9 hcv9 hsv9 hS9 hl9 hs9 hc91 hc92
      match stk, hs9 with
      | [w], ⟨hw, _⟩ =>
        cases hw
        exact va_forget (fun q hq => hS9.2.2 q hq) (W.widen (Nat.le_trans (Nat.le_add_right _ _) hc91) (Nat.le_trans (Nat.le_add_right _ _) hc92) (hQ pc H9 ls9 (by rw [← st_by]; exact hd9))))
    (by
      intro x pc hx
      cases hx)
  exact hG H locs cells slots ls [] (st_P hB.2.2.2.1) (st_cv xs L) (st_sv xs L) hS (st_lr hl h1 h2 h3) trivial (by show cells + kk ≤ 601024; omega) (by show slots + nn ≤ 7293034; omega)
theorem st_walk (hfl : l.stackTraces = false) (hL : L ≤ 4608) (hx : p.tables.exec = Jvm.exec) (hb : c.code = code) (hret : meth.sig.returnType = ret) (hml : c.maxLocals = 7) (hown : s.vm.findClass RL = some mid.cls) (hts : ∀ w ∈ lw_tbl, w.before #[Value.ref b] s = true) (hX : va_X b L xs s s.heap) (hbl : b < s.heap.size) (hlk : meth.locks = false) (hgv : (Jvm.Cond.and given_1 narrow_1).before #[Value.ref b] s = true) (hnil : c.exceptionTable.toList = []) (hrun : st_Run xs L)
    (hQ : ∀ (pc : Nat) (H : Heap) (ls : Array Slot), decode code pc = .ok (.ireturn, 1) → W p l e room_1 s mid #[Value.ref b] below meth c H [] 601024 7293034 Q (F0 mid pc ls [.int 1])) : W p l e room_1 s mid #[Value.ref b] below meth c s.heap [] 0 0 Q (entryFrame mid ([Value.ref b] : List Value).toArray 7) := by
  obtain ⟨D, tx, cy, hWd, hAo⟩ := st_world hts hgv
  have C : st_Cx p s mid #[Value.ref b] c D tx cy s.heap.size := ⟨hx, hb, hml, hown, hts, hWd, Nat.le_refl _, hAo⟩
  rw [lg_entry_eq]
  have hl0 : lv_has ((lg_sl [Value.ref b] ++ List.replicate (7 - (lg_sl [Value.ref b]).length) Slot.unset).toArray) 7 [(0, .ref b)] := lv_entry [Value.ref b] (by show 1 ≤ 7; decide)
  generalize (lg_sl [Value.ref b] ++ List.replicate (7 - (lg_sl [Value.ref b]).length) Slot.unset).toArray = ls0 at hl0
  have hB0 : cc_B D tx cy s.heap.size (fun _ => 0) 0 [] (fun _ => 0) s.heap := by
    refine ⟨fun _ _ => rfl, Nat.le_refl _, ?_, ?_, ?_, ?_⟩
    · intro e h
      cases h
    · intro k q h
      simp [cc_ws] at h
    · intro i j p q h
      simp [cc_ws] at h
    · intro k q h
      simp [cc_ws] at h
  refine st_new (x := 11) C ⟨by decide, by decide⟩ st_d0 (by decide) st_w1 hB0 va_S.rf (fun q1 H1 hB1 hS1 => ?_)
  refine lv_dup hx hb st_d3 rfl ?_
  have con1 := cc_con_of (l := l) (by decide) (by decide) (cc_sound (l := l) (D := D) (tx := tx) (cy := cy) (z0 := s.heap.size) 20000 6 11 _ _ cc_run1 (by decide))
  refine st_ctor (x := 11) (i := 0) (d := 6) (r := (cc_h1, 149, 6501)) (ad := cc_up (fun _ => 0) 0 q1) C ⟨by decide, by decide, by decide, by decide⟩ st_d4 st_w2 (by decide) (by show 0 < 1; decide) (by show 1 + 0 ≤ 8; decide) hl0.1 con1 hB1 hS1 (fun ad2 H2 locs2 hag2 hB2 hS2 => ?_)
  have e1 : ad2 0 = q1 := (hag2 0 (by decide)).trans cc_up_self
  refine lv_astore_n hx hb st_d7 rfl hl0 (by decide) (lv' := [(1, .ref q1), (0, .ref b)]) rfl (fun ls1 hl1 => ?_)
  refine st_new (x := 12) C ⟨by decide, by decide⟩ st_d8 (by decide) st_w3 hB2 hS2 (fun q2 H3 hB3 hS3 => ?_)
  refine lv_dup hx hb st_d11 rfl ?_
  have con2 := cc_con_of (l := l) (by decide) (by decide) (cc_sound (l := l) (D := D) (tx := tx) (cy := cy) (z0 := s.heap.size) 20000 6 12 _ _ cc_run2 (by decide))
  have e2 : cc_up ad2 cc_h1.length q2 150 = q2 := by rw [st_h1l]; exact cc_up_self
  have hl2 : (cc_h1 ++ [(.inl (12, cc_df 12) : cc_E)]).length = 151 := by rw [List.length_append, st_h1l]; rfl
  rw [show (Value.ref q2 :: [Value.ref q2] : List Value) = Value.ref (cc_up ad2 cc_h1.length q2 150) :: [Value.ref q2] by rw [e2]]
  refine st_ctor (x := 12) (i := 150) (d := 6) (r := (cc_h2, 69, 10649)) C ⟨by decide, by decide, by decide, by decide⟩ st_d12 st_w4 (by decide) (by rw [hl2]; decide) (by show 1 + 0 ≤ 8; decide) hl1.1 con2 hB3 hS3 (fun ad4 H4 locs4 hag4 hB4 hS4 => ?_)
  have e4 : ad4 150 = q2 := (hag4 150 (by rw [hl2]; decide)).trans e2
  have e3 : ad4 0 = q1 := (hag4 0 (by rw [hl2]; decide)).trans ((cc_up_lt 0 (by rw [st_h1l]; decide)).trans e1)
  refine lv_astore_n hx hb st_d15 rfl hl1 (by decide) (lv' := [(2, .ref q2), (1, .ref q1), (0, .ref b)]) rfl (fun ls2 hl2' => ?_)
  refine lv_iconst hx hb st_d16 (v := 1) (by decide) ?_
  refine va_newa (atype := .long) hx hb (hts _ cc_waJ) (ty := .long) rfl hWd.1 hB4.2.2.2.1 hB4.2.2.2.2 hS4 (fun q h => h) (N' := 1) (a0 := (1, .inr (.inl (fun _ => (0 : Int32).toInt64)))) (fun cA => ?_) (by decide) (by decide) (by decide) (by decide) (by decide) st_d17 (fun q3 cA H5 hK5 hP5 hD5 hS5 => ?_)
  · rw [vp_cell_l, show (0 : Int32).toInt64 = 0 by decide]
    rfl
  · have ec := cc_same hK5 (i := 3) rfl
    subst ec
    have hB5 := hB4.push (e := .inr (3, 1, .inl [])) rfl rfl hP5 hD5
    refine lv_astore_n hx hb st_d19 rfl hl2' (by decide) (lv' := [(3, .ref q3), (2, .ref q2), (1, .ref q1), (0, .ref b)]) rfl (fun ls3 hl3 => ?_)
    refine lv_iconst hx hb st_d20 (v := 0) (by decide) ?_
    refine lv_istore hx hb st_d21 hl3 (by decide) (lv' := [(4, .int 0), (3, .ref q3), (2, .ref q2), (1, .ref q1), (0, .ref b)]) rfl (fun ls4 hl4 => ?_)
    refine st_loop hfl hL C hret hlk hX hbl hnil hrun hQ hB5 hS5 hl4 ?_ ?_ ?_ (by decide) (by decide)
    · exact (cc_up_lt 0 (by show 0 < cc_h2.length; rw [st_h2l]; decide)).trans e3
    · exact (cc_up_lt 150 (by show 150 < cc_h2.length; rw [st_h2l]; decide)).trans e4
    · have : cc_up ad4 cc_h2.length q3 220 = q3 := by rw [st_h2l]; exact cc_up_self
      exact this
end STQ
