/-! groups that are no cells of ours are never written -/
def fn_a (g : Nat) (m : mm_M) (a : mm_A) : Prop := match a with
  | .inl (_, _, _, m') => m' g = m g
  | .inr (.inl (_, _, (_, _, _, m'))) => m' g = m g
  | .inr (.inr _) => True
section FN
variable {g : Nat} {m : mm_M} {pc : Nat} {L : List (Option mm_V)} {st : List mm_V} {a : mm_A}
theorem fn_w {m : mm_M} {g g' i k : Nat} {x : Int32} (h : g' ≠ g) : (mm_w m g' i k x) g = m g := by
  funext i'
  exact if_neg (fun z => h z.1.symm)
theorem fn_wa {m : mm_M} {g g' i : Nat} {f : Nat → Int32} (h : g' ≠ g) : (mm_wa m g' i f) g = m g := by
  funext i'
  exact if_neg (fun z => h z.1.symm)
theorem fn_k {m' : mm_M} (hm : m' g = m g) (h : mm_k pc L st m' = some a) : fn_a g m a := by
  cases h
  exact hm
theorem fn_c {c : ClassFile.Cond} {x y : Int32} {pc2 : Nat} (h : mm_cond c x y (mm_k pc L st m) (mm_k pc2 L st m) = some a) : fn_a g m a := by
  unfold mm_cond at h
  cases c <;> (dsimp only at h; split at h <;> exact fn_k rfl h)
theorem fn_sw {x : Int32} {d : Nat} : ∀ (l : List (Int32 × Nat)), mm_swgo x (fun t => mm_k t L st m) d l = some a → fn_a g m a
  | [], h => fn_k rfl h
  | (k, t) :: r, h => by
    unfold mm_swgo at h
    split at h
    · exact fn_k rfl h
    · exact fn_sw r h
theorem fn_g {g' i k : Nat} {f : mm_F} (h : mm_getf pc L st m g' i k f = some a) : fn_a g m a := by
  unfold mm_getf at h
  split at h
  · exact fn_k rfl h
  · exact fn_k rfl h
  · split at h <;> exact fn_k rfl h
  · exact fn_k rfl h
  · exact fn_k rfl h
theorem fn_p {g' i k : Nat} {f : mm_F} {v : mm_V} (hg : g' ≠ g) (h : mm_putf pc L st m g' i k f v = some a) : fn_a g m a := by
  unfold mm_putf at h
  split at h
  · exact fn_k (fn_w hg) h
  · split at h
    · exact fn_k (fn_w hg) h
    · cases h
  · exact fn_k (fn_w hg) (mm_bifn h)
  · cases h
theorem fn_ar {g : Nat} {q : Nat × Nat × Int32} (h : mm_ar g = some q) : g < 134 := by
  refine Nat.not_le.mp (fun hg => ?_)
  have e : ∀ k, k ≤ 133 → Nat.ble k g = true := fun k hk => Nat.ble_eq_true_of_le (by omega)
  unfold mm_ar at h
  rw [e 77 (by omega), e 106 (by omega), e 120 (by omega), e 127 (by omega), e 131 (by omega), e 133 (by omega)] at h
  have e2 : Nat.beq g 133 = false := by
    cases hb : Nat.beq g 133 with
    | false => rfl
    | true => have := Nat.eq_of_beq_eq_true hb; omega
  rw [e2] at h
  cases h
theorem fn_j {x : Nat} (hg : 134 ≤ g) (h : mm_jdk x pc L st m = some a) : fn_a g m a := by
  unfold mm_jdk at h
  split at h
  · exact fn_k rfl h
  · exact fn_k rfl h
  · exact fn_k rfl h
  · split at h
    · rename_i har0 har1
      split at h
      · refine fn_k (fn_wa ?_) h
        have := fn_ar har1
        omega
      · cases h
    · cases h
  · exact fn_k rfl (mm_bifn h)
  · have h := mm_bifn h
    split at h
    · exact fn_k rfl h
    · cases h
  · cases h
theorem fn_l {x y : Nat} (hg : 134 ≤ g) (h : mm_call x y pc L st m = some a) : fn_a g m a := by
  unfold mm_call at h
  have h := mm_bifn h
  rcases mm_bif2 h with h | h
  · exact fn_j hg h
  · cases h
    rfl
set_option maxHeartbeats 8000000 in
theorem fn_act {i : Instr} {len x y : Nat} {v : Int32} (hg : 134 ≤ g) (h : mm_act i len v x y pc L st m = some a) : fn_a g m a := by
  have hne : ∀ {g' : Nat} {q : Nat × Nat × Int32}, mm_ar g' = some q → g' ≠ g := fun h => by have := fn_ar h; omega
  unfold mm_act at h
  split at h
  all_goals first
    | (cases h; done)
    | exact fn_k rfl h
    | exact fn_k rfl (mm_bifn h)
    | exact fn_c h
    | exact fn_sw _ h
    | exact fn_l hg h
    | exact fn_l hg (mm_bifn h)
    | (cases h; exact trivial)
    | (split at h
       · cases h; exact trivial
       · split at h
         · cases h; exact trivial
         · cases h)
    | (split at h
       · rename_i c fs hob
         have h := mm_bifn h
         split at h
         · first
             | exact fn_g h
             | (refine fn_p ?_ h
                have := fr_ob13 hob
                omega)
         · cases h
       · cases h)
    | (split at h <;> first
         | (cases h; done)
         | exact fn_k rfl h
         | (rename_i har
            split at h <;> first
              | (cases h; done)
              | exact fn_k rfl h
              | exact fn_k (fn_w (hne har)) h
              | (split at h <;> first
                  | (cases h; done)
                  | exact fn_k (fn_w (hne har)) h)))
    | (rcases mm_bif2 h with h | h <;> first
         | exact fn_k rfl h
         | (split at h <;> first
             | (cases h; done)
             | exact fn_k rfl h
             | (split at h <;> first
                 | (cases h; done)
                 | exact fn_k rfl h)))
theorem fn_run {g : Nat} (hg : 134 ≤ g) : ∀ (n d k : Nat) (s : mm_S) (r : mm_R), mm_run n d k s = some r → r.2.1 g = s.2.2.2 g
  | 0, _, _, _, _, h => by simp [mm_run] at h
  | n + 1, d, k, (pc, L, st, m), r, h => by
    unfold mm_run at h
    cases hst : mm_step k (pc, L, st, m) with
    | none => rw [hst] at h; simp at h
    | some a =>
      have hk : fn_a g m a := by
        unfold mm_step at hst
        dsimp only at hst
        split at hst
        · exact fn_act hg hst
        · cases hst
      rw [hst] at h
      rcases a with ⟨pc', L', st', m'⟩ | ⟨k', as, pc', L', st', m'⟩ | o
      · exact (fn_run hg n d k _ r h).trans hk
      · cases d with
        | zero => simp at h
        | succ d =>
          dsimp only at h
          cases hr : mm_run n d k' (0, mm_L0 k' as, [], m') with
          | none => rw [hr] at h; simp at h
          | some r1 =>
            have g1 := fn_run hg n d k' _ r1 hr
            rw [hr] at h
            obtain ⟨v | e, m1, c, z⟩ := r1
            · dsimp only at h g1
              cases hr2 : mm_run n (d + 1) k (pc', L', v.toList ++ st', m1) with
              | none => rw [hr2] at h; simp at h
              | some r2 =>
                have g3 := fn_run hg n (d + 1) k _ r2 hr2
                rw [hr2] at h
                cases h
                exact (g3.trans g1).trans hk
            · dsimp only at h g1
              cases hh : mm_hd pc e (mm_hs k) with
              | none =>
                rw [hh] at h
                cases h
                exact g1.trans hk
              | some hp =>
                rw [hh] at h
                dsimp only at h
                cases hr2 : mm_run n (d + 1) k (hp, L', [.inr (.inr (some (999, 0)))], m1) with
                | none => rw [hr2] at h; simp at h
                | some r2 =>
                  have g3 := fn_run hg n (d + 1) k _ r2 hr2
                  rw [hr2] at h
                  cases h
                  exact (g3.trans g1).trans hk
      · cases h
        rfl
theorem fn_X {g d k : Nat} {as : List mm_V} {m : mm_M} {r : mm_R} (hg : 134 ≤ g) (h : mm_X d k as m r) : r.2.1 g = m g := by
  obtain ⟨n, hn⟩ := h
  exact fn_run hg n d k _ r hn
end FN
