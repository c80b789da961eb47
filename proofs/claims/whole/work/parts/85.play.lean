/-! events: what they make of a part, in whatever order they are read -/
abbrev zE : Type := Nat → Nat → Int32
def z_b (ev : zE) (a b : Nat) : Prop := (ev 4 a).toInt < (ev 4 b).toInt ∨ ((ev 4 a).toInt = (ev 4 b).toInt ∧ a < b)
/-- an event that counts for a part -/
def z_a (ev : zE) (t D k : Int32) (p e : Nat) : Prop := ev 1 e = t ∧ ev 2 e = Int32.ofNat p ∧ (ev 4 e).toInt ≤ D.toInt ∧ (ev 5 e).toInt ≤ k.toInt ∧ (ev 6 e = -1 ∨ k.toInt < (ev 6 e).toInt)
/-- one that no mending has undone -/
def z_ac (ev : zE) (t D k : Int32) (p : Nat) (M : List Nat) (e : Nat) : Prop := z_a ev t D k p e ∧ ¬ ev 0 e = 3 ∧ ∀ x, x ∈ M → z_a ev t D k p x → ev 0 x = 3 → ¬ z_b ev e x
noncomputable def z_F (ev : zE) (t D k : Int32) (p : Nat) (M : List Nat) (e : Nat) : Int32 := @ite Int32 (z_ac ev t D k p M e ∧ ev 0 e = 0) (Classical.propDecidable _) (ev 3 e) 0
def z_sum (F : Nat → Int32) : List Nat → Int32
  | [] => 0
  | e :: r => F e + z_sum F r
theorem z_sum_cg {F G : Nat → Int32} : ∀ {L : List Nat}, (∀ e, e ∈ L → F e = G e) → z_sum F L = z_sum G L
  | [], _ => rfl
  | e :: r, h => by
    show F e + z_sum F r = G e + z_sum G r
    rw [h e List.mem_cons_self, z_sum_cg (fun x hx => h x (List.mem_cons_of_mem _ hx))]
theorem z_sum_0 {F : Nat → Int32} {L : List Nat} (h : ∀ e, e ∈ L → F e = 0) : z_sum F L = 0 := by
  induction L with
  | nil => rfl
  | cons e r ih =>
    show F e + z_sum F r = 0
    rw [h e List.mem_cons_self, ih (fun x hx => h x (List.mem_cons_of_mem _ hx)), Int32.add_zero]
theorem z_sum_sn {F : Nat → Int32} {x : Nat} : ∀ {L : List Nat}, z_sum F (L ++ [x]) = z_sum F L + F x
  | [] => by
    show F x + 0 = 0 + F x
    rw [Int32.add_zero, Int32.zero_add]
  | e :: r => by
    show F e + z_sum F (r ++ [x]) = F e + z_sum F r + F x
    rw [z_sum_sn, Int32.add_assoc]
theorem z_sum_pm {F : Nat → Int32} {L R : List Nat} (h : L.Perm R) : z_sum F L = z_sum F R := by
  induction h with
  | nil => rfl
  | cons x _ ih =>
    show F x + _ = F x + _
    rw [ih]
  | swap x y l =>
    show F y + (F x + z_sum F l) = F x + (F y + z_sum F l)
    rw [← Int32.add_assoc, ← Int32.add_assoc, Int32.add_comm (F y)]
  | trans _ _ ih1 ih2 => exact ih1.trans ih2
def z_SS (ev : zE) (t D k : Int32) (p : Nat) (M L : List Nat) (s : Int32 × Int32 × Int32) : Prop := s.1 = z_sum (z_F ev t D k p M) L ∧ ((∃ e, e ∈ L ∧ z_ac ev t D k p M e ∧ ev 0 e = 1 ∧ s.2.1 = ev 3 e ∧ ∀ x, x ∈ L → z_ac ev t D k p M x → ev 0 x = 1 → x = e ∨ z_b ev x e) ∨ ((∀ e, e ∈ L → z_ac ev t D k p M e → ¬ ev 0 e = 1) ∧ s.2.1 = -1)) ∧ ((∃ e, e ∈ L ∧ z_ac ev t D k p M e ∧ ev 0 e = 2 ∧ s.2.2 = 1) ∨ ((∀ e, e ∈ L → z_ac ev t D k p M e → ¬ ev 0 e = 2) ∧ s.2.2 = 0))
theorem z_b_as {ev : zE} {a b : Nat} (h : z_b ev a b) (h2 : z_b ev b a) : False := by
  unfold z_b at h h2
  omega
theorem z_b_tr {ev : zE} {a b c : Nat} (h : z_b ev a b) (h2 : z_b ev b c) : z_b ev a c := by
  unfold z_b at h h2 ⊢
  omega
/-- what is told so is one thing -/
theorem z_SS_u {ev : zE} {t D k : Int32} {p : Nat} {M L : List Nat} {s r : Int32 × Int32 × Int32} (h : z_SS ev t D k p M L s) (h2 : z_SS ev t D k p M L r) : s = r := by
  obtain ⟨a1, a2, a3⟩ := h
  obtain ⟨b1, b2, b3⟩ := h2
  have e1 : s.1 = r.1 := a1.trans b1.symm
  have e2 : s.2.1 = r.2.1 := by
    rcases a2 with ⟨e, m1, m2, m3, m4, m5⟩ | ⟨m1, m2⟩
    · rcases b2 with ⟨f, n1, n2, n3, n4, n5⟩ | ⟨n1, n2⟩
      · rcases m5 f n1 n2 n3 with h | h
        · rw [m4, n4, h]
        · rcases n5 e m1 m2 m3 with h' | h'
          · rw [m4, n4, h']
          · exact (z_b_as h h').elim
      · exact (n1 e m1 m2 m3).elim
    · rcases b2 with ⟨f, n1, n2, n3, n4, n5⟩ | ⟨n1, n2⟩
      · exact (m1 f n1 n2 n3).elim
      · rw [m2, n2]
  have e3 : s.2.2 = r.2.2 := by
    rcases a3 with ⟨e, m1, m2, m3, m4⟩ | ⟨m1, m2⟩
    · rcases b3 with ⟨f, n1, n2, n3, n4⟩ | ⟨n1, n2⟩
      · rw [m4, n4]
      · exact (n1 e m1 m2 m3).elim
    · rcases b3 with ⟨f, n1, n2, n3, n4⟩ | ⟨n1, n2⟩
      · exact (m1 f n1 n2 n3).elim
      · rw [m2, n2]
  exact Prod.ext e1 (Prod.ext e2 e3)
theorem z_ac_pm {ev : zE} {t D k : Int32} {p e : Nat} {M M2 : List Nat} (h : ∀ x, x ∈ M2 → x ∈ M) (ha : z_ac ev t D k p M e) : z_ac ev t D k p M2 e := ⟨ha.1, ha.2.1, fun x hx => ha.2.2 x (h x hx)⟩
theorem z_F_pm {ev : zE} {t D k : Int32} {p : Nat} {M M2 : List Nat} (h : ∀ x, x ∈ M ↔ x ∈ M2) : z_F ev t D k p M = z_F ev t D k p M2 := by
  have e : z_ac ev t D k p M = z_ac ev t D k p M2 := by
    funext e
    exact propext ⟨z_ac_pm (fun x hx => (h x).mpr hx), z_ac_pm (fun x hx => (h x).mp hx)⟩
  unfold z_F
  rw [e]
theorem z_SS_pm {ev : zE} {t D k : Int32} {p : Nat} {L R : List Nat} {s : Int32 × Int32 × Int32} (hp : L.Perm R) (h : z_SS ev t D k p L L s) : z_SS ev t D k p R R s := by
  have hm : ∀ x, x ∈ L ↔ x ∈ R := fun x => hp.mem_iff
  have e : z_ac ev t D k p L = z_ac ev t D k p R := by
    funext e
    exact propext ⟨z_ac_pm (fun x hx => (hm x).mpr hx), z_ac_pm (fun x hx => (hm x).mp hx)⟩
  obtain ⟨a1, a2, a3⟩ := h
  refine ⟨?_, ?_, ?_⟩
  · rw [a1, z_sum_pm hp, z_F_pm hm]
  · rw [e] at a2
    rcases a2 with ⟨e, m1, m2, m3, m4, m5⟩ | ⟨m1, m2⟩
    · exact Or.inl ⟨e, (hm e).mp m1, m2, m3, m4, fun x hx => m5 x ((hm x).mpr hx)⟩
    · exact Or.inr ⟨fun e he => m1 e ((hm e).mpr he), m2⟩
  · rw [e] at a3
    rcases a3 with ⟨e, m1, m2, m3, m4⟩ | ⟨m1, m2⟩
    · exact Or.inl ⟨e, (hm e).mp m1, m2, m3, m4⟩
    · exact Or.inr ⟨fun e he => m1 e ((hm e).mpr he), m2⟩
/-- what an event makes of a part -/
def z_un (kd x : Int32) (s : Int32 × Int32 × Int32) : Int32 × Int32 × Int32 := if kd = 0 then (s.1 + x, s.2) else if kd = 1 then (s.1, x, s.2.2) else if kd = 2 then (s.1, s.2.1, 1) else (0, -1, 0)
noncomputable def z_sp (ev : zE) (t D k : Int32) (p : Nat) (s : Int32 × Int32 × Int32) (e : Nat) : Int32 × Int32 × Int32 := @ite _ (z_a ev t D k p e) (Classical.propDecidable _) (z_un (ev 0 e) (ev 3 e) s) s
theorem z_ac_sn {ev : zE} {t D k : Int32} {p e : Nat} {L : List Nat} (hn : ¬ (z_a ev t D k p e ∧ ev 0 e = 3)) : z_ac ev t D k p (L ++ [e]) = z_ac ev t D k p L := by
  funext x
  refine propext ⟨z_ac_pm (fun y hy => List.mem_append_left _ hy), fun h => ⟨h.1, h.2.1, fun y hy ha h3 => ?_⟩⟩
  rcases List.mem_append.mp hy with hy | hy
  · exact h.2.2 y hy ha h3
  · rw [List.mem_singleton] at hy
    subst hy
    exact (hn ⟨ha, h3⟩).elim
theorem z_SS_sn {ev : zE} {t D k : Int32} {p e : Nat} {L : List Nat} {s : Int32 × Int32 × Int32} (hk : ev 0 e = 0 ∨ ev 0 e = 1 ∨ ev 0 e = 2 ∨ ev 0 e = 3) (hb : ∀ x, x ∈ L → z_b ev x e) (h : z_SS ev t D k p L L s) : z_SS ev t D k p (L ++ [e]) (L ++ [e]) (z_sp ev t D k p s e) := by
  have hmem : ∀ x, x ∈ L ++ [e] → x ∈ L ∨ x = e := fun x hx => by
    rcases List.mem_append.mp hx with h | h
    · exact Or.inl h
    · exact Or.inr (List.mem_singleton.mp h)
  have hL : ∀ x, x ∈ L → x ∈ L ++ [e] := fun x hx => List.mem_append_left _ hx
  have hE : e ∈ L ++ [e] := List.mem_append_right _ List.mem_cons_self
  obtain ⟨a1, a2, a3⟩ := h
  by_cases ha : z_a ev t D k p e
  · have es : z_sp ev t D k p s e = z_un (ev 0 e) (ev 3 e) s := if_pos ha
    rw [es]
    by_cases h3 : ev 0 e = 3
    · have hno : ∀ x, x ∈ L ++ [e] → ¬ z_ac ev t D k p (L ++ [e]) x := fun x hx hc => by
        rcases hmem x hx with h | h
        · exact hc.2.2 e hE ha h3 (hb x h)
        · rw [h] at hc
          exact hc.2.1 h3
      have eu : z_un (ev 0 e) (ev 3 e) s = (0, -1, 0) := by
        unfold z_un
        rw [h3]
        rfl
      rw [eu]
      refine ⟨?_, Or.inr ⟨fun x hx hc => (hno x hx hc).elim, rfl⟩, Or.inr ⟨fun x hx hc => (hno x hx hc).elim, rfl⟩⟩
      refine (z_sum_0 (fun x hx => ?_)).symm
      exact if_neg (fun hc => hno x hx hc.1)
    · have hac : z_ac ev t D k p (L ++ [e]) e := by
        refine ⟨ha, h3, fun x hx hax h3x hbx => ?_⟩
        rcases hmem x hx with h | h
        · exact z_b_as (hb x h) hbx
        · rw [h] at hbx
          exact z_b_as hbx hbx
      have hsn : z_ac ev t D k p (L ++ [e]) = z_ac ev t D k p L := z_ac_sn (fun h => h3 h.2)
      have hFn : z_F ev t D k p (L ++ [e]) = z_F ev t D k p L := by
        unfold z_F
        rw [hsn]
      rw [hsn] at hac
      unfold z_SS
      rw [hFn, hsn, z_sum_sn]
      rcases hk with h0 | h1 | h2 | h3'
      · have eu : z_un (ev 0 e) (ev 3 e) s = (s.1 + ev 3 e, s.2) := if_pos h0
        have eF : z_F ev t D k p L e = ev 3 e := if_pos ⟨hac, h0⟩
        rw [eu, eF]
        refine ⟨by rw [← a1], ?_, ?_⟩
        · rcases a2 with ⟨f, m1, m2, m3, m4, m5⟩ | ⟨m1, m2⟩
          · refine Or.inl ⟨f, hL f m1, m2, m3, m4, fun x hx hcx h1x => ?_⟩
            rcases hmem x hx with h | h
            · exact m5 x h hcx h1x
            · rw [h, h0] at h1x
              cases h1x
          · refine Or.inr ⟨fun x hx hcx h1x => ?_, m2⟩
            rcases hmem x hx with h | h
            · exact m1 x h hcx h1x
            · rw [h, h0] at h1x
              cases h1x
        · rcases a3 with ⟨f, m1, m2, m3, m4⟩ | ⟨m1, m2⟩
          · exact Or.inl ⟨f, hL f m1, m2, m3, m4⟩
          · refine Or.inr ⟨fun x hx hcx h1x => ?_, m2⟩
            rcases hmem x hx with h | h
            · exact m1 x h hcx h1x
            · rw [h, h0] at h1x
              cases h1x
      · have h0 : ¬ ev 0 e = 0 := by rw [h1]; decide
        have eu : z_un (ev 0 e) (ev 3 e) s = (s.1, ev 3 e, s.2.2) := by
          unfold z_un
          rw [if_neg h0, if_pos h1]
        have eF : z_F ev t D k p L e = 0 := if_neg (fun h => h0 h.2)
        rw [eu, eF, Int32.add_zero]
        refine ⟨a1, ?_, ?_⟩
        · refine Or.inl ⟨e, hE, hac, h1, rfl, fun x hx hcx h1x => ?_⟩
          rcases hmem x hx with h | h
          · exact Or.inr (hb x h)
          · exact Or.inl h
        · rcases a3 with ⟨f, m1, m2, m3, m4⟩ | ⟨m1, m2⟩
          · exact Or.inl ⟨f, hL f m1, m2, m3, m4⟩
          · refine Or.inr ⟨fun x hx hcx h1x => ?_, m2⟩
            rcases hmem x hx with h | h
            · exact m1 x h hcx h1x
            · rw [h, h1] at h1x
              cases h1x
      · have h0 : ¬ ev 0 e = 0 := by rw [h2]; decide
        have h1 : ¬ ev 0 e = 1 := by rw [h2]; decide
        have eu : z_un (ev 0 e) (ev 3 e) s = (s.1, s.2.1, 1) := by
          unfold z_un
          rw [if_neg h0, if_neg h1, if_pos h2]
        have eF : z_F ev t D k p L e = 0 := if_neg (fun h => h0 h.2)
        rw [eu, eF, Int32.add_zero]
        refine ⟨a1, ?_, ?_⟩
        · rcases a2 with ⟨f, m1, m2, m3, m4, m5⟩ | ⟨m1, m2⟩
          · refine Or.inl ⟨f, hL f m1, m2, m3, m4, fun x hx hcx h1x => ?_⟩
            rcases hmem x hx with h | h
            · exact m5 x h hcx h1x
            · rw [h] at h1x
              exact (h1 h1x).elim
          · refine Or.inr ⟨fun x hx hcx h1x => ?_, m2⟩
            rcases hmem x hx with h | h
            · exact m1 x h hcx h1x
            · rw [h] at h1x
              exact (h1 h1x).elim
        · exact Or.inl ⟨e, hE, hac, h2, rfl⟩
      · exact (h3 h3').elim
  · have es : z_sp ev t D k p s e = s := if_neg ha
    have hsn : z_ac ev t D k p (L ++ [e]) = z_ac ev t D k p L := z_ac_sn (fun h => ha h.1)
    have hFn : z_F ev t D k p (L ++ [e]) = z_F ev t D k p L := by
      unfold z_F
      rw [hsn]
    have hne : ¬ z_ac ev t D k p L e := fun h => ha h.1
    have eF : z_F ev t D k p L e = 0 := if_neg (fun h => hne h.1)
    rw [es]
    unfold z_SS
    rw [hFn, hsn, z_sum_sn, eF, Int32.add_zero]
    refine ⟨a1, ?_, ?_⟩
    · rcases a2 with ⟨f, m1, m2, m3, m4, m5⟩ | ⟨m1, m2⟩
      · refine Or.inl ⟨f, hL f m1, m2, m3, m4, fun x hx hcx h1x => ?_⟩
        rcases hmem x hx with h | h
        · exact m5 x h hcx h1x
        · rw [h] at hcx
          exact (hne hcx).elim
      · refine Or.inr ⟨fun x hx hcx h1x => ?_, m2⟩
        rcases hmem x hx with h | h
        · exact m1 x h hcx h1x
        · rw [h] at hcx
          exact (hne hcx).elim
    · rcases a3 with ⟨f, m1, m2, m3, m4⟩ | ⟨m1, m2⟩
      · exact Or.inl ⟨f, hL f m1, m2, m3, m4⟩
      · refine Or.inr ⟨fun x hx hcx h1x => ?_, m2⟩
        rcases hmem x hx with h | h
        · exact m1 x h hcx h1x
        · rw [h] at hcx
          exact (hne hcx).elim
/-- the events read in their order by days -/
theorem z_SS_fold {ev : zE} {t D k : Int32} {p : Nat} (hk : ∀ e, ev 0 e = 0 ∨ ev 0 e = 1 ∨ ev 0 e = 2 ∨ ev 0 e = 3) : ∀ (r pre : List Nat) (s : Int32 × Int32 × Int32), (pre ++ r).Pairwise (z_b ev) → z_SS ev t D k p pre pre s → z_SS ev t D k p (pre ++ r) (pre ++ r) (r.foldl (z_sp ev t D k p) s)
  | [], pre, s, _, h => by
    rw [List.append_nil]
    exact h
  | e :: r, pre, s, hp, h => by
    have h1 := z_SS_sn (e := e) (hk e) (fun x hx => (List.pairwise_append.mp hp).2.2 x hx e List.mem_cons_self) h
    have h2 := z_SS_fold hk r (pre ++ [e]) _ (by rw [List.append_assoc]; exact hp) h1
    rw [List.append_assoc] at h2
    exact h2
