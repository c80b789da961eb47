/-! the law's start: the constructors' cells are the little machine's -/
theorem st_ndn_inj : ∀ (l : List Nat), st_ndn l = true → ∀ (i j a : Nat), l[i]? = some a → l[j]? = some a → i = j
  | [], _, i, j, a, h, _ => by simp at h
  | q :: r, hn, i, j, a, h1, h2 => by
    simp only [st_ndn, Bool.and_eq_true, Bool.not_eq_true'] at hn
    have key : ∀ k : Nat, r[k]? = some q → False := fun k hk => by
      have h3 := List.any_eq_false.mp hn.1 q (List.mem_of_getElem? hk)
      simp at h3
    cases i with
    | zero =>
      cases j with
      | zero => rfl
      | succ j =>
        rw [List.getElem?_cons_zero] at h1
        rw [List.getElem?_cons_succ] at h2
        cases h1
        exact (key j h2).elim
    | succ i =>
      rw [List.getElem?_cons_succ] at h1
      cases j with
      | zero =>
        rw [List.getElem?_cons_zero] at h2
        cases h2
        exact (key i h1).elim
      | succ j =>
        rw [List.getElem?_cons_succ] at h2
        rw [st_ndn_inj r hn.2 i j a h1 h2]
theorem st_at {p g i : Nat} (h : mm_cl[p]? = some (g, i)) : ∃ e, cc_ps[p]? = some (st_p g i) ∧ g < 134 ∧ cc_h3[st_p g i]? = some e ∧ st_cm g i e = true := by
  have hp : p < cc_ps.length := by rw [← st_len]; exact (List.getElem?_eq_some_iff.mp h).1
  have hz : (mm_cl.zip cc_ps)[p]? = some ((g, i), cc_ps[p]) := by
    rw [List.getElem?_zip_eq_some]
    exact ⟨h, List.getElem?_eq_getElem hp⟩
  have h1 := List.all_eq_true.mp st_oks _ (List.mem_of_getElem? hz)
  unfold st_okc at h1
  have h2 := (Bool.and_eq_true _ _).mp h1
  have h3 := (Bool.and_eq_true _ _).mp h2.1
  have e1 : st_p g i = cc_ps[p] := Nat.eq_of_beq_eq_true h3.2
  have h4 := h2.2
  cases hc : cc_h3[cc_ps[p]]? with
  | none => rw [show ((g, i), cc_ps[p]).2 = cc_ps[p] from rfl, hc] at h4; cases h4
  | some e =>
    rw [show ((g, i), cc_ps[p]).2 = cc_ps[p] from rfl, hc] at h4
    exact ⟨e, by rw [e1]; exact List.getElem?_eq_getElem hp, Nat.le_of_ble_eq_true h3.1, by rw [e1]; exact hc, h4⟩
theorem st_m0_lt {xs : Nat → Int32} {n g : Nat} (hg : g < 134) (i k : Nat) : st_m0 xs n g i k = st_mb g i k := if_neg (show ¬ g = mm_gX by unfold mm_gX; omega)
theorem st_ad_lt {ad tx : Nat → Nat} {b g : Nat} (hg : g < 134) (i : Nat) : st_ad ad tx b g i = ad (st_p g i) := by
  unfold st_ad
  rw [if_neg (show ¬ g = mm_gS by unfold mm_gS; omega), if_neg (show ¬ g = mm_gX by unfold mm_gX; omega)]
theorem st_ad_S {ad tx : Nat → Nat} {b : Nat} (i : Nat) : st_ad ad tx b 135 i = tx i := if_pos rfl
/-- one field -/
theorem st_fv {ad tx : Nat → Nat} {b : Nat} {xs : Nat → Int32} {n g i k : Nat} {f : mm_F} {v : cc_V} (hg : g < 134) (h : st_fm g i k f v = true) : cc_v ad tx v = mm_fv (st_ad ad tx b) (st_m0 xs n) g i k f := by
  unfold st_fm at h
  unfold mm_fv
  rw [st_m0_lt hg]
  split at h
  · exact congrArg Value.int (of_decide_eq_true h).symm
  · exact congrArg Value.int (of_decide_eq_true h).symm
  · dsimp only
    rw [if_pos (of_decide_eq_true h)]
    rfl
  · simp only [Bool.and_eq_true, Bool.not_eq_true', decide_eq_false_iff_not, decide_eq_true_eq] at h
    obtain ⟨⟨h1, h2⟩, h3, h4, h5⟩ := h
    dsimp only
    rw [if_neg h1, st_ad_lt (Nat.le_of_ble_eq_true h3), Nat.eq_of_beq_eq_true h4]
    rfl
  · simp only [Bool.and_eq_true] at h
    dsimp only
    rw [st_ad_lt (Nat.le_of_ble_eq_true h.1), Nat.eq_of_beq_eq_true h.2]
    rfl
  · simp only [Bool.and_eq_true] at h
    dsimp only
    rw [st_ad_lt (Nat.le_of_ble_eq_true h.1), Nat.eq_of_beq_eq_true h.2]
    rfl
  · cases h
theorem st_fl {ad tx : Nat → Nat} {b : Nat} {xs : Nat → Int32} {n g i : Nat} (hg : g < 134) : ∀ (k : Nat) (fs : List mm_F) (vs : List cc_V), st_fsm g i k fs vs = true → vs.map (cc_v ad tx) = mm_fl (st_ad ad tx b) (st_m0 xs n) g i k fs
  | _, [], [], _ => rfl
  | k, f :: fs, v :: vs, h => by
    have h2 := (Bool.and_eq_true _ _).mp (show (st_fm g i k f v && st_fsm g i (k + 1) fs vs) = true from h)
    show cc_v ad tx v :: vs.map (cc_v ad tx) = mm_fv _ _ g i k f :: mm_fl _ _ g i (k + 1) fs
    rw [st_fv (b := b) (xs := xs) (n := n) hg h2.1, st_fl hg (k + 1) fs vs h2.2]
  | _, [], _ :: _, h => by cases h
  | _, _ :: _, [], h => by cases h
/-- one cell -/
theorem st_ent {D : va_G} {cy : Nat → ClassId} {H : Heap} {ad tx : Nat → Nat} {b : Nat} {xs : Nat → Int32} {n g i : Nat} {e : cc_E} (hg : g < 134) (hc : cc_h3[st_p g i]? = some e) (h : st_cm g i e = true) (hat : va_at D vwCl (ad (st_p g i), cc_e ad tx cy e) H) : va_at D vwCl (st_ad ad tx b g i, mm_ent (st_ad ad tx b) cy (st_m0 xs n) g i) H := by
  rw [st_ad_lt hg]
  unfold st_cm at h
  unfold mm_ent
  cases hob : mm_ob g with
  | some q =>
    obtain ⟨c, fs⟩ := q
    rw [hob] at h
    dsimp only at h ⊢
    rcases e with ⟨c', vs⟩ | z
    · have h2 := (Bool.and_eq_true _ _).mp h
      rw [cc_e_obj, st_fl (b := b) (xs := xs) (n := n) hg 0 fs vs h2.2, ← Nat.eq_of_beq_eq_true h2.1] at hat
      exact hat
    · cases h
  | none =>
    rw [hob] at h
    dsimp only at h ⊢
    cases har : mm_ar g with
    | some q =>
      obtain ⟨ty, n2, u⟩ := q
      rw [har] at h
      dsimp only at h
      rcases e with z | ⟨ty', n', f | l⟩
      · cases h
      · have h2 := (Bool.and_eq_true _ _).mp h
        have e1 : ty = ty' := Nat.eq_of_beq_eq_true h2.1
        have e2 : n2 = n' := Nat.eq_of_beq_eq_true h2.2
        subst e1
        subst e2
        have hm : st_m0 xs n g i = cc_fn f := by
          funext k
          rw [st_m0_lt hg]
          unfold st_mb
          rw [hc]
        rw [hm]
        by_cases h3 : ty = 3
        · subst h3
          exact hat
        · rw [cc_e_int h3] at hat
          split
          · rename_i z; cases z; exact absurd rfl h3
          · rename_i z; cases z; exact hat
          · rename_i z; cases z
      · cases h
    | none =>
      rw [har] at h
      dsimp only at h ⊢
      cases hra : mm_ra g with
      | some q =>
        obtain ⟨n2, hh, b2⟩ := q
        rw [hra] at h
        dsimp only at h ⊢
        rcases e with z | ⟨k', n', f | l⟩
        · cases h
        · cases h
        · have h2 := (Bool.and_eq_true _ _).mp h
          have h3 := (Bool.and_eq_true _ _).mp h2.1
          have e1 : k' = mm_rk g := Nat.eq_of_beq_eq_true h3.1
          have e2 : n2 = n' := Nat.eq_of_beq_eq_true h3.2
          subst e1
          subst e2
          rw [cc_e_ref] at hat
          refine Eq.trans (show H[ad (st_p g i)]? = some (vp_cell (cy (mm_rk g)) (n2, .inr (.inr (.inr (.inr fun j => (l.getD j none).map (cc_a ad tx)))))) from hat) (congrArg some ?_)
          rw [vp_cell_q, vp_cell_q]
          refine st_arrV _ _ _ _ (fun j hj => ?_)
          have h4 := List.all_eq_true.mp h2.2 j (List.mem_range.mpr hj)
          congr 1
          rw [List.getD_eq_getElem?_getD]
          split at h4
          · rename_i q hl
            simp only [Bool.and_eq_true] at h4
            rw [hl, st_ad_lt (Nat.le_of_ble_eq_true h4.1), Nat.eq_of_beq_eq_true h4.2]
            rfl
          · rename_i t hl
            simp only [Bool.and_eq_true] at h4
            rw [hl, Nat.eq_of_beq_eq_true h4.1, st_ad_S, Nat.eq_of_beq_eq_true h4.2]
            rfl
          · cases h4
      | none =>
        rw [hra] at h
        cases h
theorem st_P {D : va_G} {cy : Nat → ClassId} {H : Heap} {ad tx : Nat → Nat} {b : Nat} {xs : Nat → Int32} {n : Nat} (h : va_P D vwCl (cc_ws ad tx cy cc_h3) H) : va_P D vwCl (mm_ws (st_ad ad tx b) cy (st_m0 xs n)) H := by
  intro k q hk
  unfold mm_ws at hk
  rw [List.getElem?_map] at hk
  cases hc : mm_cl[k]? with
  | none => rw [hc] at hk; cases hk
  | some z =>
    obtain ⟨g, i⟩ := z
    rw [hc] at hk
    cases hk
    obtain ⟨e, -, h1, h2, h3⟩ := st_at hc
    exact st_ent h1 h2 h3 (h (st_p g i) _ (cc_ws_at h2))
theorem st_D {A : Nat → Prop} {cy : Nat → ClassId} {ad tx : Nat → Nat} {b : Nat} (h : va_D A (cc_ws ad tx cy cc_h3)) (m : mm_M) : va_D A (mm_ws (st_ad ad tx b) cy m) := by
  have key : ∀ (k : Nat) (q : Nat × va_E), (mm_ws (st_ad ad tx b) cy m)[k]? = some q → ∃ z e, cc_ps[k]? = some z ∧ (cc_ws ad tx cy cc_h3)[z]? = some (q.1, e) := by
    intro k q hk
    unfold mm_ws at hk
    rw [List.getElem?_map] at hk
    cases hc : mm_cl[k]? with
    | none => rw [hc] at hk; cases hk
    | some z =>
      obtain ⟨g, i⟩ := z
      rw [hc] at hk
      cases hk
      obtain ⟨e, h0, h1, h2, h3⟩ := st_at hc
      refine ⟨st_p g i, cc_e ad tx cy e, h0, ?_⟩
      show (cc_ws ad tx cy cc_h3)[st_p g i]? = some (st_ad ad tx b g i, cc_e ad tx cy e)
      rw [st_ad_lt h1]
      exact cc_ws_at h2
  refine ⟨fun i j p q hi hj hpq => ?_, fun k q hk => ?_⟩
  · obtain ⟨z1, e1, a1, a2⟩ := key i p hi
    obtain ⟨z2, e2, b1, b2⟩ := key j q hj
    have := h.1 z1 z2 _ _ a2 b2 hpq
    subst this
    exact st_ndn_inj cc_ps st_nds i j z1 a1 b1
  · obtain ⟨z1, e1, a1, a2⟩ := key k q hk
    exact h.2 z1 (q.1, e1) a2
theorem st_cvf {g i : Nat} : ∀ (k0 : Nat) (fs : List mm_F) (vs : List cc_V), st_fsm g i k0 fs vs = true → ∀ k f, fs[k]? = some f → ∃ v, st_fm g i (k0 + k) f v = true
  | _, [], [], _, k, f, hf => by simp at hf
  | k0, f0 :: fs, v :: vs, h, k, f, hf => by
    have h2 := (Bool.and_eq_true _ _).mp (show (st_fm g i k0 f0 v && st_fsm g i (k0 + 1) fs vs) = true from h)
    cases k with
    | zero => cases hf; exact ⟨v, h2.1⟩
    | succ k =>
      rw [List.getElem?_cons_succ] at hf
      obtain ⟨w, hw⟩ := st_cvf (k0 + 1) fs vs h2.2 k f hf
      exact ⟨w, by rw [show k0 + (k + 1) = k0 + 1 + k by omega]; exact hw⟩
  | _, [], _ :: _, h, _, _, _ => by cases h
  | _, _ :: _, [], h, _, _, _ => by cases h
theorem st_cv (xs : Nat → Int32) (n : Nat) : mm_cv (st_m0 xs n) := by
  intro g c k h i fs hob hf hm
  obtain ⟨p, hp⟩ := mm_pos hm
  obtain ⟨e, -, h1, h2, h3⟩ := st_at hp
  unfold st_cm at h3
  rw [hob] at h3
  dsimp only at h3
  rcases e with ⟨c', vs⟩ | z
  · have h4 := (Bool.and_eq_true _ _).mp h3
    obtain ⟨v, hv⟩ := st_cvf 0 fs vs h4.2 k _ hf
    rw [Nat.zero_add] at hv
    rw [st_m0_lt h1]
    unfold st_fm at hv
    split at hv
    · rename_i z; cases z
    · rename_i z; cases z
    · exact Or.inl (of_decide_eq_true hv)
    · rename_i z; cases z
      simp only [Bool.and_eq_true, Bool.not_eq_true', decide_eq_false_iff_not, decide_eq_true_eq] at hv
      obtain ⟨⟨-, h5⟩, -, -, h6⟩ := hv
      refine Or.inr ⟨h5, ?_⟩
      obtain ⟨z, hz1, hz2⟩ := List.any_eq_true.mp h6
      simp only [Bool.and_eq_true, Nat.beq_eq] at hz2
      obtain ⟨z1, z2⟩ := z
      rw [← hz2.1, ← hz2.2]
      exact hz1
    · rename_i z; cases z
    · rename_i z; cases z
    · cases hv
  · cases h3
theorem st_sv (xs : Nat → Int32) (n : Nat) : mm_sv xs n (st_m0 xs n) := ⟨fun _ _ => rfl, rfl⟩
/-- the world speaks of the texts' addresses alone -/
theorem st_Wd {D : va_G} {ad ad' : Nat → Nat → Nat} {cy : Nat → ClassId} {A : Nat → Prop} {U : State} (he : ∀ n, n < mm_ns → ad' mm_gS n = ad mm_gS n) (h : mm_Wd D ad cy A U) : mm_Wd D ad' cy A U := by
  obtain ⟨h1, h2, h3, h4, h5, ⟨adV, h6⟩, h7⟩ := h
  have hl : mm_tx.length = mm_ns := by decide +kernel
  refine ⟨h1, h2, h3, fun n c i tx ht => ?_, h5, ⟨adV, fun n hn => ?_⟩, h7⟩
  · rw [he n (by rw [← hl]; exact (List.getElem?_eq_some_iff.mp ht).1)]
    exact h4 n c i tx ht
  · rw [he n hn]
    exact h6 n hn
