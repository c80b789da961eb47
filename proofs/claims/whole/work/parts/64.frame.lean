/-! runs look at the groups alone that their references lead to: a run on a memory that is changed elsewhere is the same run -/
def fr_mg (S : Nat → Bool) (b m : mm_M) : mm_M := fun g => bif S g then m g else b g
theorem fr_at {S : Nat → Bool} {b m : mm_M} {g : Nat} (h : S g = true) : fr_mg S b m g = m g := by
  unfold fr_mg
  rw [h]
  rfl
theorem fr_no {S : Nat → Bool} {b m : mm_M} {g : Nat} (h : S g = false) : fr_mg S b m g = b g := by
  unfold fr_mg
  rw [h]
  rfl
theorem fr_wa {S : Nat → Bool} {b m : mm_M} {g i : Nat} {f : Nat → Int32} (h : S g = true) : mm_wa (fr_mg S b m) g i f = fr_mg S b (mm_wa m g i f) := by
  funext g' i'
  unfold mm_wa
  by_cases hg : g' = g
  · subst hg
    rw [fr_at h, fr_at h]
  · rw [if_neg (fun z => hg z.1)]
    cases hs : S g' with
    | true =>
      rw [fr_at hs, fr_at hs]
      exact (if_neg (fun z => hg z.1)).symm
    | false => rw [fr_no hs, fr_no hs]
theorem fr_w {S : Nat → Bool} {b m : mm_M} {g i k : Nat} {x : Int32} (h : S g = true) : mm_w (fr_mg S b m) g i k x = fr_mg S b (mm_w m g i k x) := by
  unfold mm_w
  rw [fr_at h]
  exact fr_wa h
def fr_v (S : Nat → Bool) (v : mm_V) : Bool := match v with
  | .inr (.inr (some (g, _))) => S g
  | _ => true
def fr_A (f : mm_M → mm_M) (a : mm_A) : mm_A := match a with
  | .inl (pc, L, st, m) => .inl (pc, L, st, f m)
  | .inr (.inl (k, as, (pc, L, st, m))) => .inr (.inl (k, as, (pc, L, st, f m)))
  | .inr (.inr o) => .inr (.inr o)
section FR
variable {S : Nat → Bool} {b m : mm_M} {pc : Nat} {L : List (Option mm_V)} {st : List mm_V}
theorem fr_k : mm_k pc L st (fr_mg S b m) = (mm_k pc L st m).map (fr_A (fr_mg S b)) := rfl
theorem fr_cond {f : mm_A → mm_A} {c : ClassFile.Cond} {x y : Int32} {t e t' e' : Option mm_A} (ht : t' = t.map f) (he : e' = e.map f) : mm_cond c x y t' e' = (mm_cond c x y t e).map f := by
  subst ht
  subst he
  cases c <;> (unfold mm_cond; dsimp only; split <;> rfl)
theorem fr_swgo {f : mm_A → mm_A} {a : Int32} {d : Nat} {F F' : Nat → Option mm_A} (h : ∀ t, F' t = (F t).map f) : ∀ l, mm_swgo a F' d l = (mm_swgo a F d l).map f
  | [] => h d
  | (k, t) :: r => by
    unfold mm_swgo
    split
    · exact h t
    · exact fr_swgo h r
theorem fr_ite {f : mm_A → mm_A} {c : Prop} [Decidable c] {t e t' e' : Option mm_A} (ht : t' = t.map f) (he : e' = e.map f) : (if c then t' else e') = (if c then t else e).map f := by
  subst ht
  subst he
  split <;> rfl
theorem fr_bif {f : mm_A → mm_A} {c : Bool} {t e t' e' : Option mm_A} (ht : t' = t.map f) (he : e' = e.map f) : (bif c then t' else e') = (bif c then t else e).map f := by
  subst ht
  subst he
  cases c <;> rfl
theorem fr_getf {g i k : Nat} {f : mm_F} (hg : S g = true) : mm_getf pc L st (fr_mg S b m) g i k f = (mm_getf pc L st m g i k f).map (fr_A (fr_mg S b)) := by
  unfold mm_getf
  rw [fr_at hg]
  split <;> first | rfl | (split <;> rfl)
theorem fr_putf {g i k : Nat} {f : mm_F} {a : mm_V} (hg : S g = true) : mm_putf pc L st (fr_mg S b m) g i k f a = (mm_putf pc L st m g i k f a).map (fr_A (fr_mg S b)) := by
  unfold mm_putf
  simp only [fr_w hg]
  split <;> first | rfl | exact fr_ite rfl rfl | exact fr_bif rfl rfl
theorem fr_jdk {x : Nat} (h : ∀ v ∈ st, fr_v S v = true) : mm_jdk x pc L st (fr_mg S b m) = (mm_jdk x pc L st m).map (fr_A (fr_mg S b)) := by
  unfold mm_jdk
  split
  · rfl
  · rfl
  · rfl
  · rename_i n dp g1 i1 sp g0 i0 st
    have h1 : S g1 = true := h (.inr (.inr (some (g1, i1)))) (by simp)
    have h0 : S g0 = true := h (.inr (.inr (some (g0, i0)))) (by simp)
    rw [fr_at h1, fr_at h0, fr_wa h1]
    split
    · split <;> rfl
    · rfl
  · exact fr_bif rfl rfl
  · exact fr_bif (fr_ite rfl rfl) rfl
  · rfl
theorem fr_call {x y : Nat} (h : ∀ v ∈ st, fr_v S v = true) : mm_call x y pc L st (fr_mg S b m) = (mm_call x y pc L st m).map (fr_A (fr_mg S b)) := by
  unfold mm_call
  exact fr_bif (fr_bif (fr_jdk h) rfl) rfl
set_option maxHeartbeats 8000000 in
theorem fr_act {i : Instr} {len x y : Nat} {v : Int32} (h : ∀ v ∈ st, fr_v S v = true) : mm_act i len v x y pc L st (fr_mg S b m) = (mm_act i len v x y pc L st m).map (fr_A (fr_mg S b)) := by
  cases i with
  | iload k =>
    unfold mm_act
    dsimp only
    rcases mm_ld L k with _ | a | a | a <;> rfl
  | iload_n k =>
    unfold mm_act
    dsimp only
    rcases mm_ld L k.val with _ | a | a | a <;> rfl
  | aload k =>
    unfold mm_act
    dsimp only
    rcases mm_ld L k with _ | a | a | a <;> rfl
  | aload_n k =>
    unfold mm_act
    dsimp only
    rcases mm_ld L k.val with _ | a | a | a <;> rfl
  | iinc k z =>
    unfold mm_act
    dsimp only
    rcases mm_ld L k with _ | a | a | a <;> rfl
  | ldc z =>
    unfold mm_act
    dsimp only
    cases x <;> rfl
  | ldc_w z =>
    unfold mm_act
    dsimp only
    cases x <;> rfl
  | getfield z =>
    rcases st with _ | ⟨a | a | _ | ⟨g, j⟩, _ | ⟨a2 | a2 | _ | ⟨g2, j2⟩, st⟩⟩
    all_goals first
      | rfl
      | (have hg : S g = true := h _ List.mem_cons_self
         unfold mm_act
         dsimp only
         rcases mm_ob g with _ | ⟨c, fs⟩
         · rfl
         · refine fr_bif ?_ rfl
           rcases fs[y]? with _ | f
           · rfl
           · exact fr_getf hg)
  | putfield z =>
    rcases st with _ | ⟨a, _ | ⟨a2 | a2 | _ | ⟨g, j⟩, st⟩⟩
    · rfl
    · rcases a with a | a | _ | ⟨g, j⟩ <;> rfl
    · rcases a with a | a | _ | ⟨g, j⟩ <;> rfl
    · rcases a with a | a | _ | ⟨g, j⟩ <;> rfl
    · rcases a with a | a | _ | ⟨g, j⟩ <;> rfl
    · have hg : S g = true := h (.inr (.inr (some (g, j)))) (by simp)
      unfold mm_act
      dsimp only
      rcases mm_ob g with _ | ⟨c, fs⟩
      · rcases a with a | a | _ | ⟨g2, j2⟩ <;> rfl
      · have key : ∀ z : mm_V, (bif Nat.beq c x then (match fs[y]? with | some f => mm_putf (pc + len) L st (fr_mg S b m) g j y f z | none => none) else none) = (bif Nat.beq c x then (match fs[y]? with | some f => mm_putf (pc + len) L st m g j y f z | none => none) else none).map (fr_A (fr_mg S b)) := fun z => by
          refine fr_bif ?_ rfl
          rcases fs[y]? with _ | f
          · rfl
          · exact fr_putf hg
        rcases a with a | a | _ | ⟨g2, j2⟩ <;> exact key _
  | iaload =>
    rcases st with _ | ⟨a | a | _ | ⟨g2, j2⟩, _ | ⟨a2 | a2 | _ | ⟨g, j⟩, st⟩⟩
    all_goals first
      | rfl
      | (have hg : S g = true := h (.inr (.inr (some (g, j)))) (by simp)
         unfold mm_act
         dsimp only
         rw [fr_at hg]
         refine fr_bif (fr_ite rfl rfl) ?_
         rcases mm_ar g with _ | ⟨t, n, z⟩
         · rfl
         · rcases t with _ | t
           · exact fr_ite rfl rfl
           · rfl)
  | baload =>
    rcases st with _ | ⟨a | a | _ | ⟨g2, j2⟩, _ | ⟨a2 | a2 | _ | ⟨g, j⟩, st⟩⟩
    all_goals first
      | rfl
      | (have hg : S g = true := h (.inr (.inr (some (g, j)))) (by simp)
         unfold mm_act
         dsimp only
         rw [fr_at hg]
         rcases mm_ar g with _ | ⟨t, n, z⟩
         · rfl
         · rcases t with _ | _ | _ | t
           · rfl
           · exact fr_ite rfl rfl
           · exact fr_ite rfl rfl
           · rfl)
  | laload =>
    rcases st with _ | ⟨a | a | _ | ⟨g2, j2⟩, _ | ⟨a2 | a2 | _ | ⟨g, j⟩, st⟩⟩
    all_goals first
      | rfl
      | (have hg : S g = true := h (.inr (.inr (some (g, j)))) (by simp)
         unfold mm_act
         dsimp only
         rw [fr_at hg]
         rcases mm_ar g with _ | ⟨t, n, z⟩
         · rfl
         · rcases t with _ | _ | _ | _ | t
           · rfl
           · rfl
           · rfl
           · exact fr_ite rfl rfl
           · rfl)
  | iastore =>
    rcases st with _ | ⟨a | a | _ | ⟨g2, j2⟩, _ | ⟨a2 | a2 | _ | ⟨g3, j3⟩, _ | ⟨a3 | a3 | _ | ⟨g, j⟩, st⟩⟩⟩
    all_goals first
      | rfl
      | (have hg : S g = true := h (.inr (.inr (some (g, j)))) (by simp)
         unfold mm_act
         dsimp only
         rw [fr_w hg]
         rcases mm_ar g with _ | ⟨t, n, z⟩
         · rfl
         · rcases t with _ | t
           · exact fr_ite rfl rfl
           · rfl)
  | bastore =>
    rcases st with _ | ⟨a | a | _ | ⟨g2, j2⟩, _ | ⟨a2 | a2 | _ | ⟨g3, j3⟩, _ | ⟨a3 | a3 | _ | ⟨g, j⟩, st⟩⟩⟩
    all_goals first
      | rfl
      | (have hg : S g = true := h (.inr (.inr (some (g, j)))) (by simp)
         unfold mm_act
         dsimp only
         rw [fr_w hg, fr_w hg]
         rcases mm_ar g with _ | ⟨t, n, z⟩
         · rfl
         · rcases t with _ | _ | _ | t
           · rfl
           · exact fr_ite rfl rfl
           · exact fr_ite (fr_ite rfl rfl) rfl
           · rfl)
  | lastore =>
    rcases st with _ | ⟨a | a | _ | ⟨g2, j2⟩, _ | ⟨a2 | a2 | _ | ⟨g3, j3⟩, _ | ⟨a3 | a3 | _ | ⟨g, j⟩, st⟩⟩⟩
    all_goals first
      | rfl
      | (have hg : S g = true := h (.inr (.inr (some (g, j)))) (by simp)
         unfold mm_act
         dsimp only
         rw [fr_w hg]
         rcases mm_ar g with _ | ⟨t, n, z⟩
         · rfl
         · rcases t with _ | _ | _ | _ | t
           · rfl
           · rfl
           · rfl
           · exact fr_ite rfl rfl
           · rfl)
  | aaload =>
    rcases st with _ | ⟨a | a | _ | ⟨g2, j2⟩, _ | ⟨a2 | a2 | _ | ⟨g, j⟩, st⟩⟩
    all_goals first
      | rfl
      | (unfold mm_act
         dsimp only
         rcases mm_ra g with _ | ⟨n, z, t⟩
         · rfl
         · exact fr_ite rfl rfl)
  | arraylength =>
    rcases st with _ | ⟨a | a | _ | ⟨g, j⟩, _ | ⟨a2 | a2 | _ | ⟨g2, j2⟩, st⟩⟩
    all_goals first
      | rfl
      | (have hg : S g = true := h _ List.mem_cons_self
         unfold mm_act
         dsimp only
         rw [fr_at hg]
         refine fr_bif rfl ?_
         rcases mm_ar g with _ | ⟨t, n, z⟩
         · rcases mm_ra g with _ | ⟨n, z, t⟩ <;> rfl
         · rfl)
  | tableswitch z1 z2 z3 z4 =>
    rcases st with _ | ⟨a | a | _ | ⟨g, j⟩, st⟩
    all_goals first
      | rfl
      | exact fr_swgo (F := fun t => mm_k t L st m) (F' := fun t => mm_k t L st (fr_mg S b m)) (fun t => rfl) (mm_sw y).1
  | lookupswitch z1 z2 =>
    rcases st with _ | ⟨a | a | _ | ⟨g, j⟩, st⟩
    all_goals first
      | rfl
      | exact fr_swgo (F := fun t => mm_k t L st m) (F' := fun t => mm_k t L st (fr_mg S b m)) (fun t => rfl) (mm_sw y).1
  | ireturn =>
    rcases st with _ | ⟨a | a | _ | ⟨g, j⟩, _ | ⟨a2 | a2 | _ | ⟨g2, j2⟩, st⟩⟩
    all_goals first
      | rfl
      | (cases x with
         | zero => rfl
         | succ x => exact fr_ite rfl rfl)
  | invokestatic z =>
    exact fr_call h
  | invokevirtual z =>
    exact fr_bif (fr_call h) rfl
  | istore k =>
    rcases st with _ | ⟨a | a | _ | ⟨g, j⟩, _ | ⟨a2 | a2 | _ | ⟨g2, j2⟩, st⟩⟩ <;> first | rfl | exact fr_bif rfl rfl
  | istore_n k =>
    rcases st with _ | ⟨a | a | _ | ⟨g, j⟩, _ | ⟨a2 | a2 | _ | ⟨g2, j2⟩, st⟩⟩ <;> first | rfl | exact fr_bif rfl rfl
  | astore k =>
    rcases st with _ | ⟨a | a | _ | ⟨g, j⟩, _ | ⟨a2 | a2 | _ | ⟨g2, j2⟩, st⟩⟩ <;> first | rfl | exact fr_bif rfl rfl
  | astore_n k =>
    rcases st with _ | ⟨a | a | _ | ⟨g, j⟩, _ | ⟨a2 | a2 | _ | ⟨g2, j2⟩, st⟩⟩ <;> first | rfl | exact fr_bif rfl rfl
  | _ =>
    rcases st with _ | ⟨a | a | _ | ⟨g, j⟩, _ | ⟨a2 | a2 | _ | ⟨g2, j2⟩, st⟩⟩
    all_goals first
      | rfl
      | exact fr_cond rfl rfl
      | exact fr_ite rfl rfl
end FR
