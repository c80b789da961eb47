/-! the law's start: the world of the state -/
section STW
variable {args : Array Value} {s : State}
theorem st_kcls (hts : ∀ w ∈ lw_tbl, w.before args s = true) : ∃ D : va_G, ∀ (c : Nat) (q : vw_C), vwCl[c]? = some q → u_Kn s q.1 q.2.1 q.2.2 (D.1 c) (D.2 c) := by
  have h : ∀ c : Nat, ∃ z : ClassId × (Nat → Nat), ∀ q : vw_C, vwCl[c]? = some q → u_Kn s q.1 q.2.1 q.2.2 z.1 z.2 := by
    intro c
    by_cases hc : c < 13
    · obtain ⟨C, T, N, ty0, h1, h2, h3, h4, h5, h6, h7⟩ := cc_cls_in hc
      have hi := List.all_eq_true.mp st_piok c (List.mem_range.mpr hc)
      split at hi
      · rename_i n i hp
        have hw := hts _ (List.mem_of_getElem? (of_decide_eq_true hi))
        have hn := List.all_eq_true.mp cc_rnm c (List.mem_range.mpr hc)
        rw [← of_decide_eq_true hn, ← h2] at hw
        obtain ⟨cC, iS, hK⟩ := u_known (T := T) (N := N) hts (fun w hw => (List.mem_filter.mp (h6 w hw)).1) hw
        refine ⟨(cC, iS), fun q hq => ?_⟩
        rw [h1] at hq
        cases hq
        exact hK
      · cases hi
    · refine ⟨(0, fun _ => 0), fun q hq => ?_⟩
      have hl : vwCl.length = 13 := by decide +kernel
      exact absurd (List.getElem?_eq_some_iff.mp hq).1 (by omega)
  exact ⟨(fun c => (Classical.choose (h c)).1, fun c => (Classical.choose (h c)).2), fun c q hq => Classical.choose_spec (h c) q hq⟩
theorem st_arT {cA comp : ClassId} {kA : Class} {ty : FieldType} (h1 : s.vm.classes[cA]? = some kA) (h2 : kA.kind = .array comp ty) : ArrOfT s cA ty := fun _ _ => ⟨(fun _ h => (by cases h)), kA, h1, comp, h2⟩
theorem st_cyP {ty : FieldType} (hp : ∀ C, ty ≠ .object C) (h : (Cond.arrayClass ty).before args s = true) : ∃ cA, ArrOfT s cA ty ∧ va_RA s cA ty := by
  obtain ⟨cA, kA, comp, h1, h2, h3⟩ := Cond.arrayClass_spec h
  refine ⟨cA, st_arT h2 h3, ?_⟩
  unfold va_RA
  split
  · rename_i C; exact absurd rfl (hp C)
  · exact h1
theorem st_cyO {C : String} (h : (Cond.arrayOver (.object C)).before args s = true) : ∃ cA, ArrOfT s cA (.object C) ∧ va_RA s cA (.object C) := by
  obtain ⟨comp, cA, kA, h1, h2, h3, h4, h5⟩ := Cond.arrayOver_spec h
  exact ⟨cA, st_arT h3 h4, kA, comp, h3, h4, h1, h5⟩
theorem st_cyA (h : (Cond.arrayOver (.array .int)).before args s = true) : ∃ cA, ArrOfT s cA (.array .int) ∧ va_RA s cA (.array .int) := by
  simp only [Cond.before, Cond.holds, Cond.value, beq_iff_eq] at h
  cases hc : s.vm.findClass (FieldType.array .int).toString with
  | none => simp [hc] at h
  | some comp =>
    simp only [hc, Option.bind_some, Option.bind_eq_some_iff, Option.map_eq_some_iff] at h
    obtain ⟨c, hi, k, hk, hb⟩ := h
    cases hkind : k.kind with
    | array component ty =>
      rw [hkind] at hb
      simp at hb
      refine ⟨c, st_arT hk (by rw [hkind, hb.1]), ?_⟩
      exact hb.2
    | _ => rw [hkind] at hb; simp at hb
theorem st_K (hts : ∀ w ∈ lw_tbl, w.before args s = true) : ∃ (D : va_G) (cy : Nat → ClassId), va_K D vwCl (mm_tys cy) s := by
  obtain ⟨D, hD⟩ := st_kcls hts
  obtain ⟨c0, h0⟩ := st_cyP (ty := .int) (fun C h => by cases h) (hts _ cc_waI)
  obtain ⟨c1, h1⟩ := st_cyP (ty := .byte) (fun C h => by cases h) (hts _ cc_waB)
  obtain ⟨c2, h2⟩ := st_cyP (ty := .boolean) (fun C h => by cases h) (hts _ cc_waZ)
  obtain ⟨c3, h3⟩ := st_cyP (ty := .long) (fun C h => by cases h) (hts _ cc_waJ)
  obtain ⟨c4, h4⟩ := st_cyO (hts _ cc_woS)
  obtain ⟨c5, h5⟩ := st_cyO (hts _ cc_woH)
  obtain ⟨c6, h6⟩ := st_cyO (hts _ cc_woT)
  obtain ⟨c7, h7⟩ := st_cyA (hts _ cc_woI)
  refine ⟨D, fun k => [c0, c1, c2, c3, c4, c5, c6, c7].getD k c0, hD, fun k q hk => ?_⟩
  match k, hk with
  | 0, hk => cases hk; exact h0
  | 1, hk => cases hk; exact h1
  | 2, hk => cases hk; exact h2
  | 3, hk => cases hk; exact h3
  | 4, hk => cases hk; exact h4
  | 5, hk => cases hk; exact h5
  | 6, hk => cases hk; exact h6
  | 7, hk => cases hk; exact h7
  | k + 8, hk => simp at hk
theorem st_wsok (hts : ∀ w ∈ lw_tbl, w.before args s = true) (hgv : (Jvm.Cond.and given_1 narrow_1).before args s = true) {n : Nat} (hn : n < mm_ns) : ∃ c i tx, mm_tx[n]? = some (c, i, tx) ∧ (Cond.stringRef (mm_rn c) i tx).before args s = true ∧ ∀ w ∈ st_ws n, w.before args s = true := by
  have h := List.all_eq_true.mp st_plok n (List.mem_range.mpr hn)
  split at h
  · rename_i c i tx ps p h1 h2
    have h3 := (Bool.and_eq_true _ _).mp h
    refine ⟨c, i, tx, h1, hts _ (List.mem_of_getElem? (of_decide_eq_true h3.1)), fun w hw => ?_⟩
    have h4 := of_decide_eq_true h3.2
    have h5 : some w ∈ ps.map (fun z => st_fC[z]?) := by rw [h4]; exact List.mem_map.mpr ⟨w, hw, rfl⟩
    obtain ⟨z, -, hz⟩ := List.mem_map.mp h5
    exact flat_of_before _ hgv w (List.mem_of_getElem? hz)
  · cases h
theorem st_Tat {n c i : Nat} {tx : String} (h : mm_tx[n]? = some (c, i, tx)) : st_T n = .string (mm_rn c) i := by
  unfold st_T
  rw [h]
theorem st_str (hts : ∀ w ∈ lw_tbl, w.before args s = true) (hgv : (Jvm.Cond.and given_1 narrow_1).before args s = true) {A : Nat → Prop} (hA : ∀ a : Nat, a < s.heap.size → ¬ A a) {n : Nat} (hn : n < mm_ns) : ∃ a v, (∀ c i tx, mm_tx[n]? = some (c, i, tx) → vk_R (mm_rn c) i tx a s) ∧ sj_W a v (mm_txt n).length (mm_ch n) A s := by
  obtain ⟨c, i, tx, h1, h2, h3⟩ := st_wsok hts hgv hn
  have he : (Cond.exactly (st_T n) "java/lang/String").before args s = true := h3 _ (by unfold st_ws; simp)
  have hc : (Cond.eq (.field (st_T n) "java/lang/String" "coder" "B") (.int 0)).before args s = true := h3 _ (by unfold st_ws; simp)
  have ha : (Cond.arrayOf (st_V n) .byte).before args s = true := h3 _ (by unfold st_ws; simp)
  have hl : (Cond.eq (.length (st_V n)) (.int (Int32.ofNat (mm_txt n).length))).before args s = true := h3 _ (by unfold st_ws; simp)
  have hel : ∀ j, j < (mm_txt n).length → (Cond.eq (.elem (st_V n) (.int (Int32.ofNat j))) (.int (mm_ch n j))).before args s = true := fun j hj => h3 _ (by
    unfold st_ws
    refine List.mem_cons_of_mem _ (List.mem_cons_of_mem _ (List.mem_cons_of_mem _ (List.mem_cons_of_mem _ ?_)))
    exact List.mem_map.mpr ⟨j, List.mem_range.mpr hj, rfl⟩)
  obtain ⟨a, -, -, -, ht, -⟩ := Cond.exactly_spec he
  obtain ⟨v, hv, hT⟩ := va_Tof (A := A) (f := fun j => .int (mm_ch n j)) (Nat.lt_of_lt_of_le (mm_chs hn).1 (by decide)) ha (va_eqv hl rfl) (fun j hj => va_eqv (hel j hj) rfl) hA
  refine ⟨a, v, fun c' i' tx' h => ?_, va_Oof he ht hA, vk_OFof ht (va_eqv hc rfl) hA, vk_OFof ht hv hA, hT, va_Zof (hts _ st_lC) (hts _ st_iC) (va_eqv (flat_of_before _ hgv _ st_nC) rfl) hA, va_Zqof (hts _ st_lS) (hts _ st_iS) (flat_of_before _ hgv _ st_nS) hA⟩
  rw [h1] at h
  cases h
  rw [st_Tat h1] at ht
  exact vk_R.of h2 ht
theorem st_xstr (hts : ∀ w ∈ lw_tbl, w.before args s = true) (hgv : (Jvm.Cond.and given_1 narrow_1).before args s = true) {c i : Nat} {tx : String} (h : (c, i, tx) ∈ mm_xt) : ∃ sa, vk_R (mm_rn c) i tx sa s := by
  obtain ⟨n, hn⟩ := List.getElem?_of_mem h
  have h := List.all_eq_true.mp st_pxok n (List.mem_range.mpr (List.getElem?_eq_some_iff.mp hn).1)
  rw [hn] at h
  split at h
  · rename_i c' i' tx' q p h1 h2
    cases h1
    have h3 := (Bool.and_eq_true _ _).mp h
    have he := flat_of_before _ hgv _ (List.mem_of_getElem? (of_decide_eq_true h3.2))
    obtain ⟨a, -, -, -, ht, -⟩ := Cond.exactly_spec he
    exact ⟨a, vk_R.of (hts _ (List.mem_of_getElem? (of_decide_eq_true h3.1))) ht⟩
  · cases h
theorem st_nwT {w : Cond} (h : mm_nw w = true) : w.onTables = true := by
  unfold mm_nw at h
  split at h <;> first | rfl | cases h
theorem st_world (hts : ∀ w ∈ lw_tbl, w.before args s = true) (hgv : (Jvm.Cond.and given_1 narrow_1).before args s = true) : ∃ (D : va_G) (tx : Nat → Nat) (cy : Nat → ClassId), mm_Wd D (fun _ n => tx n) cy (fun q => s.heap.size ≤ q) s ∧ cc_Ao s := by
  obtain ⟨D, cy, hK⟩ := st_K hts
  have hA : ∀ a : Nat, a < s.heap.size → ¬ (fun q => s.heap.size ≤ q) a := fun a h1 h2 => Nat.lt_irrefl _ (Nat.lt_of_lt_of_le h1 h2)
  have hstr : ∀ n, ∃ z : Nat × Nat, n < mm_ns → (∀ c i tx, mm_tx[n]? = some (c, i, tx) → vk_R (mm_rn c) i tx z.1 s) ∧ sj_W z.1 z.2 (mm_txt n).length (mm_ch n) (fun q => s.heap.size ≤ q) s := fun n => by
    by_cases hn : n < mm_ns
    · obtain ⟨a, v, h⟩ := st_str hts hgv hA hn
      exact ⟨(a, v), fun _ => h⟩
    · exact ⟨(0, 0), fun h => absurd h hn⟩
  have hl : mm_tx.length = mm_ns := by decide +kernel
  refine ⟨D, fun n => (Classical.choose (hstr n)).1, cy, ⟨hK, fun w hw hn => va_Nw.of (st_nwT hn) (hts w hw), ⟨vx_Zqof (hts _ st_lU) (hts _ st_iU) (flat_of_before _ hgv _ st_nU) hA, vx_Zqof (hts _ st_lP) (hts _ st_iU) (flat_of_before _ hgv _ st_nP) hA⟩, fun n c i tx ht => (Classical.choose_spec (hstr n) (by rw [← hl]; exact (List.getElem?_eq_some_iff.mp ht).1)).1 c i tx ht, fun c i tx h => st_xstr hts hgv h, ⟨fun n => (Classical.choose (hstr n)).2, fun n hn => (Classical.choose_spec (hstr n) hn).2⟩, va_Nc.of (flat_of_before _ hgv _ st_nI), va_Nc.of (flat_of_before _ hgv _ st_nN)⟩, ?_⟩
  exact ⟨va_AO.of (hts _ cc_woS), va_AO.of (hts _ cc_woH), va_AO.of (hts _ cc_woT), fun args' => hts _ cc_woI⟩
end STW
