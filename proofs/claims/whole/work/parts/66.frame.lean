/-! a run on a memory that is changed elsewhere is the same run -/
section FR3
variable {S : Nat → Bool} {b : mm_M}
theorem fr_mask {L : List (Option mm_V)} {q : Option (List Bool)} (h : fr_L S L) : fr_L S (mm_mask q L) := by
  unfold mm_mask
  split
  · exact h
  · rename_i bs
    intro o ho
    obtain ⟨i, hi⟩ := List.getElem?_of_mem ho
    rw [List.getElem?_zipWith] at hi
    cases hb : bs[i]? with
    | none => rw [hb] at hi; simp at hi
    | some z =>
      cases hl : L[i]? with
      | none => rw [hb, hl] at hi; simp at hi
      | some w =>
        rw [hb, hl] at hi
        cases z with
        | true => cases hi; exact h w (List.mem_of_getElem? hl)
        | false => cases hi; rfl
theorem fr_L0 {k : Nat} {as : List mm_V} (h : fr_s S as) : fr_L S (mm_L0 k as) := by
  intro o ho
  unfold mm_L0 at ho
  rcases List.mem_append.mp ho with ho | ho
  · obtain ⟨v, hv, rfl⟩ := List.mem_map.mp ho
    exact h v hv
  · rw [(List.mem_replicate.mp ho).2]
    rfl
theorem fr_step {k pc : Nat} {L : List (Option mm_V)} {st : List mm_V} {m : mm_M} (hs : fr_s S st) : mm_step k (pc, L, st, fr_mg S b m) = (mm_step k (pc, L, st, m)).map (fr_A (fr_mg S b)) := by
  unfold mm_step
  dsimp only
  rcases mm_cd k pc with _ | ⟨i, len, v, x, y, q⟩
  · rfl
  · exact fr_act hs
theorem fr_stepk {k pc : Nat} {L : List (Option mm_V)} {st : List mm_V} {m : mm_M} {a : mm_A} (hC : fr_C S) (hL : fr_L S L) (hs : fr_s S st) (h : mm_step k (pc, L, st, m) = some a) : fr_a S a := by
  unfold mm_step at h
  dsimp only at h
  split at h
  · exact fr_keep hC (fr_mask hL) hs h
  · cases h
theorem fr_run (hC : fr_C S) : ∀ (n d k pc : Nat) (L : List (Option mm_V)) (st : List mm_V) (m : mm_M) (r : mm_R), fr_L S L → fr_s S st → mm_run n d k (pc, L, st, m) = some r → mm_run n d k (pc, L, st, fr_mg S b m) = some (r.1, fr_mg S b r.2.1, r.2.2) ∧ ∀ v, r.1 = .inl (some v) → fr_v S v = true
  | 0, _, _, _, _, _, _, _, _, _, h => by simp [mm_run] at h
  | n + 1, d, k, pc, L, st, m, r, hL, hs, h => by
    unfold mm_run at h ⊢
    rw [fr_step hs]
    cases hst : mm_step k (pc, L, st, m) with
    | none => rw [hst] at h; simp at h
    | some a =>
      have hk := fr_stepk hC hL hs hst
      rw [hst] at h
      rcases a with ⟨pc', L', st', m'⟩ | ⟨k', as, pc', L', st', m'⟩ | o
      · exact fr_run hC n d k pc' L' st' m' r hk.1 hk.2 h
      · cases d with
        | zero => simp at h
        | succ d =>
          dsimp only [Option.map_some, fr_A] at h ⊢
          obtain ⟨hk1, hk2, hk3⟩ := hk
          cases hr : mm_run n d k' (0, mm_L0 k' as, [], m') with
          | none => rw [hr] at h; simp at h
          | some r1 =>
            obtain ⟨g1, g2⟩ := fr_run hC n d k' 0 (mm_L0 k' as) [] m' r1 (fr_L0 hk1) (fun v hv => by cases hv) hr
            rw [hr] at h
            rw [g1]
            obtain ⟨v | e, m1, c, z⟩ := r1
            · dsimp only at h g2 ⊢
              cases hr2 : mm_run n (d + 1) k (pc', L', v.toList ++ st', m1) with
              | none => rw [hr2] at h; simp at h
              | some r2 =>
                obtain ⟨g3, g4⟩ := fr_run hC n (d + 1) k pc' L' (v.toList ++ st') m1 r2 hk2 (fun w hw => by
                  rcases List.mem_append.mp hw with hw | hw
                  · cases v with
                    | none => cases hw
                    | some v =>
                      rcases List.mem_cons.mp hw with rfl | hw
                      · exact g2 _ rfl
                      · cases hw
                  · exact hk3 w hw) hr2
                rw [hr2] at h
                rw [g3]
                cases h
                exact ⟨rfl, g4⟩
            · dsimp only at h ⊢
              cases hh : mm_hd pc e (mm_hs k) with
              | none =>
                rw [hh] at h
                cases h
                exact ⟨rfl, fun v hv => by cases hv⟩
              | some hp =>
                rw [hh] at h
                dsimp only at h ⊢
                cases hr2 : mm_run n (d + 1) k (hp, L', [.inr (.inr (some (999, 0)))], m1) with
                | none => rw [hr2] at h; simp at h
                | some r2 =>
                  obtain ⟨g3, g4⟩ := fr_run hC n (d + 1) k hp L' [.inr (.inr (some (999, 0)))] m1 r2 hk2 (fun w hw => by
                    rcases List.mem_cons.mp hw with rfl | hw
                    · exact hC.2.1
                    · cases hw) hr2
                  rw [hr2] at h
                  rw [g3]
                  cases h
                  exact ⟨rfl, g4⟩
      · cases h
        refine ⟨rfl, fun v hv => ?_⟩
        dsimp only at hv
        subst hv
        exact hk
theorem fr_X {d k : Nat} {as : List mm_V} {m : mm_M} {r : mm_R} (hC : fr_C S) (ha : fr_s S as) (h : mm_X d k as m r) : mm_X d k as (fr_mg S b m) (r.1, fr_mg S b r.2.1, r.2.2) := by
  obtain ⟨n, hn⟩ := h
  exact ⟨n, (fr_run hC n d k 0 _ [] m r (fr_L0 ha) (fun v hv => by cases hv) hn).1⟩
theorem fr_id {m : mm_M} : fr_mg S m m = m := by
  funext g
  unfold fr_mg
  cases S g <;> rfl
theorem fr_det {d k : Nat} {s : mm_S} {r r' : mm_R} (h : mm_E d k s r) (h' : mm_E d k s r') : r = r' := by
  obtain ⟨n, hn⟩ := h
  obtain ⟨n', hn'⟩ := h'
  exact Option.some.inj ((mm_mono_le hn (Nat.le_max_left n n')).symm.trans (mm_mono_le hn' (Nat.le_max_right n n')))
/-- the groups outside stay -/
theorem fr_out {d k : Nat} {as : List mm_V} {m : mm_M} {r : mm_R} (hC : fr_C S) (ha : fr_s S as) (h : mm_X d k as m r) {g : Nat} (hg : S g = false) : r.2.1 g = m g := by
  have h1 := fr_X (b := m) hC ha h
  rw [fr_id] at h1
  have h2 := congrArg (fun z : mm_R => z.2.1 g) (fr_det h h1)
  exact h2.trans (fr_no hg)
end FR3
/-- the class's groups; the reference's -/
def fr_SC (g : Nat) : Bool := Nat.ble g 11 || ((Nat.ble 13 g && Nat.ble g 63) || (Nat.beq g 135 || Nat.beq g 999))
def fr_SM (g : Nat) : Bool := Nat.beq g 12 || ((Nat.ble 64 g && Nat.ble g 132) || (Nat.beq g 135 || Nat.beq g 999))
def fr_chk (S : Nat → Bool) : Bool := (S 135 && S 999) && ((List.range 13).all (fun g => match mm_ob g with
  | some (_, fs) => !(S g) || fs.all (fun f => match f with
    | .inl 0 => true
    | .inl 1 => true
    | .inl (h + 2) => S h
    | .inr (h, _) => S h)
  | none => true) && (List.range 67).all (fun g => match mm_ra g with
  | some (_, h, _) => !(S g) || S h
  | none => true))
theorem fr_ob13 {g : Nat} {q : Nat × List mm_F} (h : mm_ob g = some q) : g < 13 := by
  refine Nat.not_le.mp (fun hg => ?_)
  have e : ∀ k, k ≤ 12 → Nat.ble k g = true := fun k hk => Nat.ble_eq_true_of_le (by omega)
  unfold mm_ob at h
  rw [e 7 (by omega), e 10 (by omega), e 12 (by omega)] at h
  have e2 : Nat.beq g 12 = false := by
    cases hb : Nat.beq g 12 with
    | false => rfl
    | true => have := Nat.eq_of_beq_eq_true hb; omega
  rw [e2] at h
  cases h
theorem fr_ra67 {g : Nat} {q : Nat × Nat × Nat} (h : mm_ra g = some q) : g < 67 := by
  refine Nat.not_le.mp (fun hg => ?_)
  have e : ∀ k, k ≤ 66 → Nat.ble k g = true := fun k hk => Nat.ble_eq_true_of_le (by omega)
  unfold mm_ra at h
  rw [e 64 (by omega), e 66 (by omega)] at h
  have e2 : Nat.beq g 66 = false := by
    cases hb : Nat.beq g 66 with
    | false => rfl
    | true => have := Nat.eq_of_beq_eq_true hb; omega
  rw [e2] at h
  cases h
theorem fr_C_of {S : Nat → Bool} (h : fr_chk S = true) : fr_C S := by
  unfold fr_chk at h
  simp only [Bool.and_eq_true] at h
  obtain ⟨⟨h1, h2⟩, h3, h4⟩ := h
  refine ⟨h1, h2, fun g c fs hob hg f hf => ?_, fun g n hh b hra hg => ?_⟩
  · have h5 := List.all_eq_true.mp h3 g (List.mem_range.mpr (fr_ob13 hob))
    rw [hob] at h5
    dsimp only at h5
    rw [hg] at h5
    have h6 := List.all_eq_true.mp h5 f hf
    constructor
    · rintro z rfl; exact h6
    · rintro z o rfl; exact h6
  · have h5 := List.all_eq_true.mp h4 g (List.mem_range.mpr (fr_ra67 hra))
    rw [hra] at h5
    dsimp only at h5
    rw [hg] at h5
    exact h5
theorem fr_CC : fr_C fr_SC := fr_C_of (by decide +kernel)
theorem fr_CM : fr_C fr_SM := fr_C_of (by decide +kernel)
