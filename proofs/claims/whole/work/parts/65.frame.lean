/-! references stay where they may lead; runs on a memory changed elsewhere -/
def fr_o (S : Nat → Bool) (o : Option mm_V) : Bool := match o with
  | some v => fr_v S v
  | none => true
def fr_L (S : Nat → Bool) (L : List (Option mm_V)) : Prop := ∀ o ∈ L, fr_o S o = true
def fr_s (S : Nat → Bool) (st : List mm_V) : Prop := ∀ v ∈ st, fr_v S v = true
/-- a set of groups that references don't leave -/
def fr_C (S : Nat → Bool) : Prop := S 135 = true ∧ S 999 = true ∧ (∀ g c fs, mm_ob g = some (c, fs) → S g = true → ∀ f ∈ fs, (∀ h, f = .inl (h + 2) → S h = true) ∧ ∀ h o, f = .inr (h, o) → S h = true) ∧ ∀ g n h b, mm_ra g = some (n, h, b) → S g = true → S h = true
def fr_a (S : Nat → Bool) (a : mm_A) : Prop := match a with
  | .inl (_, L, st, _) => fr_L S L ∧ fr_s S st
  | .inr (.inl (_, as, (_, L, st, _))) => fr_s S as ∧ fr_L S L ∧ fr_s S st
  | .inr (.inr (.inl (some v))) => fr_v S v = true
  | .inr (.inr _) => True
section FR2
variable {S : Nat → Bool} {b m : mm_M} {pc : Nat} {L : List (Option mm_V)} {st : List mm_V} {a : mm_A}
theorem fr_s1 {v : mm_V} (h : fr_s S (v :: st)) : fr_v S v = true ∧ fr_s S st := ⟨h v List.mem_cons_self, fun w hw => h w (List.mem_cons_of_mem _ hw)⟩
theorem fr_s2 {v : mm_V} (h1 : fr_v S v = true) (h2 : fr_s S st) : fr_s S (v :: st) := by
  intro w hw
  rcases List.mem_cons.mp hw with rfl | hw
  · exact h1
  · exact h2 w hw
theorem fr_ld {k : Nat} {v : mm_V} (h : fr_L S L) (hv : mm_ld L k = some v) : fr_v S v = true := by
  unfold mm_ld at hv
  split at hv
  · rename_i w hw
    cases hv
    exact h _ (List.mem_of_getElem? hw)
  · cases hv
theorem fr_st {k : Nat} {v : mm_V} (h : fr_L S L) (hv : fr_v S v = true) : fr_L S (L.set k (some v)) := by
  intro o ho
  rcases List.mem_or_eq_of_mem_set ho with ho | rfl
  · exact h o ho
  · exact hv
theorem fr_ok (hL : fr_L S L) (hs : fr_s S st) (h : mm_k pc L st m = some a) : fr_a S a := by
  cases h
  exact ⟨hL, hs⟩
theorem fr_okc {c : ClassFile.Cond} {x y : Int32} {pc2 : Nat} (hL : fr_L S L) (hs : fr_s S st) (h : mm_cond c x y (mm_k pc L st m) (mm_k pc2 L st m) = some a) : fr_a S a := by
  unfold mm_cond at h
  cases c <;> (dsimp only at h; split at h <;> exact fr_ok hL hs h)
theorem fr_okw {x : Int32} {d : Nat} (hL : fr_L S L) (hs : fr_s S st) : ∀ (l : List (Int32 × Nat)), mm_swgo x (fun t => mm_k t L st m) d l = some a → fr_a S a
  | [], h => fr_ok hL hs h
  | (k, t) :: r, h => by
    unfold mm_swgo at h
    split at h
    · exact fr_ok hL hs h
    · exact fr_okw hL hs r h
theorem fr_okg {g i k : Nat} {f : mm_F} (hL : fr_L S L) (hs : fr_s S st) (hf : (∀ h, f = .inl (h + 2) → S h = true) ∧ ∀ h o, f = .inr (h, o) → S h = true) (h : mm_getf pc L st m g i k f = some a) : fr_a S a := by
  unfold mm_getf at h
  split at h
  · exact fr_ok hL (fr_s2 rfl hs) h
  · exact fr_ok hL (fr_s2 rfl hs) h
  · split at h
    · exact fr_ok hL (fr_s2 rfl hs) h
    · refine fr_ok hL (fr_s2 ?_ hs) h
      exact hf.1 _ rfl
  · refine fr_ok hL (fr_s2 ?_ hs) h
    exact hf.2 _ _ rfl
  · refine fr_ok hL (fr_s2 ?_ hs) h
    exact hf.2 _ _ rfl
theorem fr_okp {g i k : Nat} {f : mm_F} {v : mm_V} (hL : fr_L S L) (hs : fr_s S st) (h : mm_putf pc L st m g i k f v = some a) : fr_a S a := by
  unfold mm_putf at h
  split at h
  · exact fr_ok hL hs h
  · split at h
    · exact fr_ok hL hs h
    · cases h
  · rename_i h1 h2 j
    cases hb : Nat.beq h1 h2 with
    | true => rw [hb] at h; exact fr_ok hL hs h
    | false => rw [hb] at h; cases h
  · cases h
theorem fr_okj {x : Nat} (hL : fr_L S L) (hs : fr_s S st) (h : mm_jdk x pc L st m = some a) : fr_a S a := by
  unfold mm_jdk at h
  split at h
  · exact fr_ok hL (fr_s2 rfl (fr_s1 (fr_s1 hs).2).2) h
  · exact fr_ok hL (fr_s2 rfl (fr_s1 (fr_s1 hs).2).2) h
  · exact fr_ok hL (fr_s2 rfl (fr_s1 hs).2) h
  · have hs := (fr_s1 (fr_s1 (fr_s1 (fr_s1 (fr_s1 hs).2).2).2).2).2
    split at h
    · split at h
      · exact fr_ok hL hs h
      · cases h
    · cases h
  · have hs := (fr_s1 hs).2
    exact fr_ok hL (fr_s2 rfl hs) (mm_bifn h)
  · have hs := (fr_s1 (fr_s1 hs).2).2
    have h := mm_bifn h
    split at h
    · exact fr_ok hL (fr_s2 rfl hs) h
    · cases h
  · cases h
theorem fr_okl {x y : Nat} (hL : fr_L S L) (hs : fr_s S st) (h : mm_call x y pc L st m = some a) : fr_a S a := by
  unfold mm_call at h
  have h := mm_bifn h
  rcases mm_bif2 h with h | h
  · exact fr_okj hL hs h
  · cases h
    exact ⟨fun v hv => hs v (List.mem_of_mem_take (List.mem_reverse.mp hv)), hL, fun v hv => hs v (List.mem_of_mem_drop hv)⟩
set_option maxHeartbeats 8000000 in
theorem fr_keep {i : Instr} {len x y : Nat} {v : Int32} (hC : fr_C S) (hL : fr_L S L) (hs : fr_s S st) (h : mm_act i len v x y pc L st m = some a) : fr_a S a := by
  unfold mm_act at h
  split at h
  all_goals first
    | (cases h; done)
    | exact fr_ok hL (fr_s2 rfl hs) h
    | exact fr_ok hL (fr_s2 rfl (fr_s1 hs).2) h
    | exact fr_ok hL (fr_s2 rfl (fr_s1 (fr_s1 hs).2).2) h
    | exact fr_ok hL (fr_s2 (fr_s1 hs).1 hs) h
    | exact fr_ok hL (fr_s2 rfl (fr_s2 (fr_s1 (fr_s1 hs).2).1 hs)) h
    | exact fr_ok hL (fr_s1 hs).2 h
    | exact fr_ok (fr_st hL rfl) (fr_s1 hs).2 (mm_bifn h)
    | exact fr_ok (fr_st hL (fr_s1 hs).1) (fr_s1 hs).2 (mm_bifn h)
    | exact fr_ok hL hs h
    | exact fr_okc hL (fr_s1 hs).2 h
    | exact fr_okc hL (fr_s1 (fr_s1 hs).2).2 h
    | exact fr_okw hL (fr_s1 hs).2 _ h
    | exact fr_okl hL hs h
    | exact fr_okl hL hs (mm_bifn h)
    | (split at h
       · rename_i hld
         first
           | exact fr_ok hL (fr_s2 rfl hs) h
           | exact fr_ok hL (fr_s2 (fr_ld hL hld) hs) h
           | exact fr_ok (fr_st hL rfl) hs h
       · cases h)
    | (split at h
       · exact fr_ok hL (fr_s2 rfl hs) h
       · refine fr_ok hL (fr_s2 ?_ hs) h
         exact hC.1)
    | (split at h
       · cases h
       · exact fr_ok hL (fr_s2 rfl (fr_s1 (fr_s1 hs).2).2) h)
    | (split at h
       · rename_i c fs hob
         have h := mm_bifn h
         split at h
         · rename_i f hf
           first
             | exact fr_okg hL (fr_s1 hs).2 (hC.2.2.1 _ _ _ hob (fr_s1 hs).1 f (List.mem_of_getElem? hf)) h
             | exact fr_okp hL (fr_s1 (fr_s1 hs).2).2 h
         · cases h
       · cases h)
    | (cases h; exact rfl)
    | (cases h; exact trivial)
    | (cases h; exact (fr_s1 hs).1)
    | (split at h
       · cases h; exact rfl
       · split at h
         · cases h; exact rfl
         · cases h)
    | (have h2 := (fr_s1 (fr_s1 hs).2).2
       split at h <;> first
         | (cases h; done)
         | exact fr_ok hL (fr_s2 rfl h2) h
         | (split at h <;> first
             | (cases h; done)
             | exact fr_ok hL (fr_s2 rfl h2) h))
    | (have h2 := (fr_s1 (fr_s1 hs).2).2
       rcases mm_bif2 h with h | h <;> (split at h <;> first
         | (cases h; done)
         | exact fr_ok hL (fr_s2 rfl h2) h
         | (split at h <;> first
             | (cases h; done)
             | exact fr_ok hL (fr_s2 rfl h2) h)))
    | (have h2 := (fr_s1 (fr_s1 (fr_s1 hs).2).2).2
       split at h <;> first
         | (cases h; done)
         | (split at h <;> first
             | (cases h; done)
             | exact fr_ok hL h2 h
             | (split at h <;> first
                 | (cases h; done)
                 | exact fr_ok hL h2 h)))
    | (have h2 := (fr_s1 (fr_s1 hs).2).2
       split at h
       · rename_i hra
         split at h
         · refine fr_ok hL (fr_s2 ?_ h2) h
           exact hC.2.2.2 _ _ _ _ hra (fr_s1 (fr_s1 hs).2).1
         · cases h
       · cases h)
    | (have h2 := (fr_s1 hs).2
       rcases mm_bif2 h with h | h
       · exact fr_ok hL (fr_s2 rfl h2) h
       · split at h
         · exact fr_ok hL (fr_s2 rfl h2) h
         · split at h
           · exact fr_ok hL (fr_s2 rfl h2) h
           · cases h)
end FR2
