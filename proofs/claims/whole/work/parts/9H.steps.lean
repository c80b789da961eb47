/-! echoes: steps, what is seen, ghosts -/
abbrev zQ : Type := Int32 × Int32 × Int32
abbrev zX : Type := zQ × Int32
theorem z_snoc {α : Type} {l : List α} {t e : α} {k : Nat} (h : (l ++ [t])[k]? = some e) : (k < l.length ∧ l[k]? = some e) ∨ (k = l.length ∧ e = t) := by
  rw [List.getElem?_append] at h
  by_cases h1 : k < l.length
  · rw [if_pos h1] at h
    exact Or.inl ⟨h1, h⟩
  · rw [if_neg h1] at h
    by_cases h2 : k = l.length
    · rw [h2, Nat.sub_self] at h
      have h' : some t = some e := h
      cases h'
      exact Or.inr ⟨h2, rfl⟩
    · obtain ⟨j, hj⟩ : ∃ j, k - l.length = j + 1 := ⟨k - l.length - 1, by omega⟩
      rw [hj] at h
      cases h
theorem z_lt {α : Type} {l : List α} {k : Nat} {e : α} (h : l[k]? = some e) : k < l.length := by
  apply Classical.byContradiction
  intro h2
  rw [List.getElem?_eq_none (by omega)] at h
  cases h
theorem z_ex {α : Type} {l : List α} {k : Nat} (h : k < l.length) : ∃ e, l[k]? = some e := ⟨l[k], List.getElem?_eq_getElem h⟩
theorem z_tkdr {α : Type} {l : List α} {p i : Nat} {t e : α} (hp : p ≤ l.length) (he : (l.take p ++ t :: l.drop p)[i]? = some e) : i ≤ l.length ∧ ((i < p ∧ l[i]? = some e) ∨ (i = p ∧ e = t) ∨ (p < i ∧ l[i - 1]? = some e)) := by
  have htl : (l.take p).length = p := by rw [List.length_take]; omega
  rw [List.getElem?_append, htl] at he
  by_cases h1 : i < p
  · rw [if_pos h1, List.getElem?_take, if_pos h1] at he
    exact ⟨by omega, Or.inl ⟨h1, he⟩⟩
  · rw [if_neg h1] at he
    by_cases h2 : i = p
    · rw [h2, Nat.sub_self] at he
      have he' : some t = some e := he
      cases he'
      exact ⟨by omega, Or.inr (Or.inl ⟨h2, rfl⟩)⟩
    · obtain ⟨k, hk⟩ : ∃ k, i - p = k + 1 := ⟨i - p - 1, by omega⟩
      rw [hk, List.getElem?_cons_succ, List.getElem?_drop] at he
      rw [show p + k = i - 1 by omega] at he
      have := z_lt he
      exact ⟨by omega, Or.inr (Or.inr ⟨by omega, he⟩)⟩
theorem z_tkln {α : Type} {l : List α} {p : Nat} {t : α} (hp : p ≤ l.length) : (l.take p ++ t :: l.drop p).length = l.length + 1 := by
  rw [List.length_append, List.length_take, List.length_cons, List.length_drop]
  omega
/-- the place behind all that are no further away -/
def z_pl : List zQ → Int32 → Nat
  | [], _ => 0
  | y :: r, x => if y.1.toInt ≤ x.toInt then z_pl r x + 1 else 0
theorem z_pl_le : ∀ (Q : List zQ) (x : Int32), z_pl Q x ≤ Q.length
  | [], _ => Nat.le_refl 0
  | y :: r, x => by
    unfold z_pl
    have := z_pl_le r x
    rw [List.length_cons]
    split <;> omega
theorem z_pl_lt : ∀ (Q : List zQ) (x : Int32) (i : Nat) (y : zQ), i < z_pl Q x → Q[i]? = some y → y.1.toInt ≤ x.toInt
  | [], _, i, _, h, _ => absurd h (Nat.not_lt_zero i)
  | z :: r, x, i, y, h, hy => by
    unfold z_pl at h
    by_cases hz : z.1.toInt ≤ x.toInt
    · rw [if_pos hz] at h
      cases i with
      | zero =>
        have hy' : some z = some y := hy
        cases hy'
        exact hz
      | succ i =>
        rw [List.getElem?_cons_succ] at hy
        exact z_pl_lt r x i y (by omega) hy
    · rw [if_neg hz] at h
      omega
theorem z_pl_at : ∀ (Q : List zQ) (x : Int32) (y : zQ), Q[z_pl Q x]? = some y → x.toInt < y.1.toInt
  | [], _, y, h => by cases h
  | z :: r, x, y, h => by
    unfold z_pl at h
    by_cases hz : z.1.toInt ≤ x.toInt
    · rw [if_pos hz, List.getElem?_cons_succ] at h
      exact z_pl_at r x y h
    · rw [if_neg hz] at h
      have h' : some z = some y := h
      cases h'
      omega
theorem z_pl_u {Q : List zQ} {x : Int32} {p : Nat} (hp : p ≤ Q.length) (h1 : ∀ i y, i < p → Q[i]? = some y → y.1.toInt ≤ x.toInt) (h2 : ∀ y, Q[p]? = some y → x.toInt < y.1.toInt) : z_pl Q x = p := by
  have a1 := z_pl_le Q x
  rcases Nat.lt_trichotomy (z_pl Q x) p with h | h | h
  · obtain ⟨y, hy⟩ := z_ex (l := Q) (k := z_pl Q x) (by omega)
    have b1 := h1 _ y h hy
    have b2 := z_pl_at Q x y hy
    omega
  · exact h
  · obtain ⟨y, hy⟩ := z_ex (l := Q) (k := p) (by omega)
    have b1 := h2 y hy
    have b2 := z_pl_lt Q x p y h hy
    omega
/-- by distances -/
def z_so (Q : List zQ) : Prop := ∀ (i j : Nat) (a b : zQ), i < j → Q[i]? = some a → Q[j]? = some b → a.1.toInt ≤ b.1.toInt
theorem z_pl_ge {Q : List zQ} {x : Int32} (hs : z_so Q) {i : Nat} {y : zQ} (h : z_pl Q x ≤ i) (hy : Q[i]? = some y) : x.toInt < y.1.toInt := by
  have hi := z_lt hy
  obtain ⟨z, hz⟩ := z_ex (l := Q) (k := z_pl Q x) (by omega)
  have b2 := z_pl_at Q x z hz
  by_cases e : i = z_pl Q x
  · rw [e, hz] at hy
    cases hy
    exact b2
  · have := hs _ i z y (by omega) hz hy
    omega
def z_ist (Q : List zQ) (t : zQ) : List zQ := Q.take (z_pl Q t.1) ++ t :: Q.drop (z_pl Q t.1)
theorem z_ist_ln {Q : List zQ} {t : zQ} : (z_ist Q t).length = Q.length + 1 := z_tkln (z_pl_le Q t.1)
theorem z_ist_so {Q : List zQ} {t : zQ} (hs : z_so Q) : z_so (z_ist Q t) := fun i j a b hij ha hb => by
  obtain ⟨_, h1⟩ := z_tkdr (z_pl_le Q t.1) ha
  obtain ⟨_, h2⟩ := z_tkdr (z_pl_le Q t.1) hb
  rcases h1 with ⟨g1, g2⟩ | ⟨g1, g2⟩ | ⟨g1, g2⟩
  · rcases h2 with ⟨k1, k2⟩ | ⟨k1, k2⟩ | ⟨k1, k2⟩
    · exact hs i j a b hij g2 k2
    · rw [k2]
      exact z_pl_lt Q t.1 i a g1 g2
    · exact hs i (j - 1) a b (by omega) g2 k2
  · rcases h2 with ⟨k1, k2⟩ | ⟨k1, k2⟩ | ⟨k1, k2⟩
    · omega
    · omega
    · rw [g2]
      exact Int.le_of_lt (z_pl_ge hs (by omega) k2)
  · rcases h2 with ⟨k1, k2⟩ | ⟨k1, k2⟩ | ⟨k1, k2⟩
    · omega
    · omega
    · exact hs (i - 1) (j - 1) a b (by omega) g2 k2
theorem z_ist_m {Q : List zQ} {t y : zQ} : y ∈ z_ist Q t ↔ y = t ∨ y ∈ Q := by
  unfold z_ist
  have e : y ∈ Q ↔ y ∈ Q.take (z_pl Q t.1) ∨ y ∈ Q.drop (z_pl Q t.1) := by
    rw [← List.mem_append, List.take_append_drop]
  rw [List.mem_append, List.mem_cons, e]
  exact ⟨fun h => by rcases h with h | h | h <;> simp [h], fun h => by rcases h with h | h | h <;> simp [h]⟩
theorem z_ist_E {Q : List zQ} {t : zQ} (h : ∀ y, y ∈ Q → y.1.toInt ≤ t.1.toInt) : z_ist Q t = Q ++ [t] := by
  have e : z_pl Q t.1 = Q.length := z_pl_u (Nat.le_refl _) (fun i y _ hy => h y (List.mem_of_getElem? hy)) (fun y hy => absurd (z_lt hy) (Nat.lt_irrefl _))
  unfold z_ist
  rw [e, List.take_length, List.drop_length]
/-- how far a run is lit -/
def z_lit (A ct : Nat → Int32) (e : Int32) (p : Nat) : Int32 := if ct p = -1 then A p else if e = 0 then ct p else A p - ct p
/-- the steps of a part, what lies ahead being v long -/
def z_ps (K A L bn ct : Nat → Int32) (e : Int32) (p : Nat) (v : Int32) : List zX := if K p = 0 then (if bn p ≤ 0 ∨ z_lit A ct e p < A p / 2 then [] else [((v + A p / 2, bn p, 0), 0)]) ++ (if ct p = -1 then [] else [((v + z_lit A ct e p, 0, 3), 0)]) else if K p = 3 then [] else [((v, L p, K p), if K p = 2 then A p else 0)]
def z_w1 (K A L bn ct : Nat → Int32) (e : Int32) (p : Nat) (s : List zX × Int32 × Bool) : List zX × Int32 × Bool := if s.2.2 = true then s else (s.1 ++ z_ps K A L bn ct e p s.2.1, (if K p = 0 then s.2.1 + z_lit A ct e p else s.2.1), decide (K p = 3 ∨ ¬ ct p = -1))
def z_wk (K A L bn ct : Nat → Int32) (e : Int32) (N : Nat) : Nat → List zX × Int32 × Bool
  | 0 => ([], 0, false)
  | j + 1 => z_w1 K A L bn ct e (z_at N e j) (z_wk K A L bn ct e N j)
theorem z_wk_s {K A L bn ct : Nat → Int32} {e : Int32} {N j : Nat} (h : (z_wk K A L bn ct e N j).2.2 = true) : ∀ k, z_wk K A L bn ct e N (j + k) = z_wk K A L bn ct e N j
  | 0 => rfl
  | k + 1 => by
    show z_w1 K A L bn ct e (z_at N e (j + k)) (z_wk K A L bn ct e N (j + k)) = _
    rw [z_wk_s h k]
    unfold z_w1
    rw [if_pos h]
theorem z_wk_e {K A L bn ct : Nat → Int32} {e : Int32} {N j : Nat} (h : (z_wk K A L bn ct e N j).2.2 = true) (hj : j ≤ N) : z_wk K A L bn ct e N N = z_wk K A L bn ct e N j := by
  have := z_wk_s h (N - j)
  rw [show j + (N - j) = N by omega] at this
  exact this
/-- what is known of the numbers -/
def z_nb (N : Nat) (K A ct : Nat → Int32) : Prop := ∀ p, p < N → (0 ≤ (A p).toInt ∧ (A p).toInt ≤ 40000) ∧ (ct p = -1 ∨ (0 ≤ (ct p).toInt ∧ (ct p).toInt ≤ 40000 ∧ K p = 0)) ∧ (K p = 0 ∨ K p = 1 ∨ K p = 2 ∨ K p = 3)
theorem n_half {a : Int32} (h : 0 ≤ a.toInt) : (a / 2).toInt = a.toInt / 2 := by
  have := iA_hi a
  rw [Int32.toInt_div, show (2 : Int32).toInt = 2 by decide, Int.tdiv_eq_ediv_of_nonneg h, Int.bmod_eq_of_le (by omega) (by omega)]
theorem z_lit_b {N : Nat} {K A ct : Nat → Int32} {e : Int32} {p : Nat} (h : z_nb N K A ct) (hp : p < N) : -40000 ≤ (z_lit A ct e p).toInt ∧ (z_lit A ct e p).toInt ≤ 40000 ∧ (ct p = -1 → 0 ≤ (z_lit A ct e p).toInt) := by
  obtain ⟨h1, h2, _⟩ := h p hp
  unfold z_lit
  by_cases hc : ct p = -1
  · rw [if_pos hc]
    exact ⟨by omega, by omega, fun _ => h1.1⟩
  · rw [if_neg hc]
    rcases h2 with h2 | h2
    · exact absurd h2 hc
    · by_cases he : e = 0
      · rw [if_pos he]
        exact ⟨by omega, by omega, fun z => absurd z hc⟩
      · rw [if_neg he, iA_sub (by omega) (by omega)]
        exact ⟨by omega, by omega, fun z => absurd z hc⟩
/-- a step's numbers -/
def z_xb (x : zX) : Prop := (-40000 ≤ x.1.1.toInt ∧ x.1.1.toInt ≤ 1000000) ∧ (x.1.2.2 = 2 → 0 ≤ x.1.1.toInt) ∧ ¬ x.1.2.2 = 4
theorem z_ps_b {N : Nat} {K A L bn ct : Nat → Int32} {e v : Int32} {p : Nat} (h : z_nb N K A ct) (hp : p < N) (hv : 0 ≤ v.toInt ∧ v.toInt ≤ 960000) : (∀ x, x ∈ z_ps K A L bn ct e p v → z_xb x) ∧ (z_ps K A L bn ct e p v).length ≤ (if ct p = -1 then 1 else 2) ∧ (K p = 3 → ct p = -1 ∧ z_ps K A L bn ct e p v = []) := by
  obtain ⟨h1, h2, h3⟩ := h p hp
  have hl := z_lit_b (e := e) h hp
  have hh := n_half h1.1
  have hb : z_xb ((v + A p / 2, bn p, 0), 0) := ⟨by dsimp only; rw [iA_add (by omega) (by omega)]; omega, fun z => absurd (show (0 : Int32) = 2 from z) (by decide), fun z => absurd (show (0 : Int32) = 4 from z) (by decide)⟩
  have hc : z_xb ((v + z_lit A ct e p, 0, 3), 0) := ⟨by dsimp only; rw [iA_add (by omega) (by omega)]; omega, fun z => absurd (show (3 : Int32) = 2 from z) (by decide), fun z => absurd (show (3 : Int32) = 4 from z) (by decide)⟩
  unfold z_ps
  by_cases hK : K p = 0
  · rw [if_pos hK]
    refine ⟨fun x hx => ?_, ?_, fun z => by rw [hK] at z; exact absurd z (by decide)⟩
    · rw [List.mem_append] at hx
      rcases hx with hx | hx
      · by_cases g : bn p ≤ 0 ∨ z_lit A ct e p < A p / 2
        · rw [if_pos g] at hx
          cases hx
        · rw [if_neg g, List.mem_singleton] at hx
          rw [hx]
          exact hb
      · by_cases g : ct p = -1
        · rw [if_pos g] at hx
          cases hx
        · rw [if_neg g, List.mem_singleton] at hx
          rw [hx]
          exact hc
    · rw [List.length_append]
      have q1 : (if bn p ≤ 0 ∨ z_lit A ct e p < A p / 2 then ([] : List zX) else [((v + A p / 2, bn p, 0), 0)]).length ≤ 1 := by
        split <;> simp
      by_cases g : ct p = -1
      · rw [if_pos g, if_pos g, List.length_nil]
        omega
      · rw [if_neg g, if_neg g, List.length_singleton]
        omega
  · rw [if_neg hK]
    have hct : ct p = -1 := by
      rcases h2 with h2 | h2
      · exact h2
      · exact absurd h2.2.2 hK
    by_cases hK3 : K p = 3
    · rw [if_pos hK3]
      exact ⟨fun x hx => (by cases hx), by rw [List.length_nil]; omega, fun _ => ⟨hct, rfl⟩⟩
    · rw [if_neg hK3]
      refine ⟨fun x hx => ?_, by rw [if_pos hct, List.length_singleton]; omega, fun z => absurd z hK3⟩
      rw [List.mem_singleton] at hx
      rw [hx]
      refine ⟨⟨by dsimp only; omega, by dsimp only; omega⟩, fun _ => hv.1, ?_⟩
      dsimp only
      rcases h3 with h3 | h3 | h3 | h3 <;> rw [h3] <;> decide
theorem z_wk_b {N : Nat} {K A L bn ct : Nat → Int32} {e : Int32} (h : z_nb N K A ct) (h24 : N ≤ 24) : ∀ j, j ≤ N → (-40000 ≤ (z_wk K A L bn ct e N j).2.1.toInt ∧ (z_wk K A L bn ct e N j).2.1.toInt ≤ 40000 * (j : Int)) ∧ ((z_wk K A L bn ct e N j).2.2 = false → 0 ≤ (z_wk K A L bn ct e N j).2.1.toInt ∧ (z_wk K A L bn ct e N j).1.length ≤ j) ∧ (z_wk K A L bn ct e N j).1.length ≤ j + 1 ∧ ∀ x, x ∈ (z_wk K A L bn ct e N j).1 → z_xb x
  | 0, _ => ⟨by show -40000 ≤ (0 : Int32).toInt ∧ (0 : Int32).toInt ≤ _; rw [i_0]; omega, fun _ => ⟨by show 0 ≤ (0 : Int32).toInt; rw [i_0]; omega, Nat.le_refl 0⟩, Nat.zero_le _, fun x hx => by cases hx⟩
  | j + 1, hj => by
    obtain ⟨b1, b2, b3, b4⟩ := z_wk_b h h24 (L := L) (bn := bn) (e := e) j (by omega)
    have hp : z_at N e j < N := z_at_lt (by omega)
    by_cases hs : (z_wk K A L bn ct e N j).2.2 = true
    · have e1 : z_wk K A L bn ct e N (j + 1) = z_wk K A L bn ct e N j := z_wk_s hs 1
      rw [e1]
      exact ⟨⟨b1.1, by omega⟩, fun z => (by rw [hs] at z; cases z), by omega, b4⟩
    · have hs' : (z_wk K A L bn ct e N j).2.2 = false := by
        cases hq : (z_wk K A L bn ct e N j).2.2 with
        | true => exact absurd hq hs
        | false => rfl
      obtain ⟨c1, c2⟩ := b2 hs'
      obtain ⟨d1, d2, d3⟩ := z_ps_b (L := L) (bn := bn) (e := e) (v := (z_wk K A L bn ct e N j).2.1) h hp (by omega)
      have hl := z_lit_b (e := e) h hp
      have e1 : z_wk K A L bn ct e N (j + 1) = ((z_wk K A L bn ct e N j).1 ++ z_ps K A L bn ct e (z_at N e j) (z_wk K A L bn ct e N j).2.1, (if K (z_at N e j) = 0 then (z_wk K A L bn ct e N j).2.1 + z_lit A ct e (z_at N e j) else (z_wk K A L bn ct e N j).2.1), decide (K (z_at N e j) = 3 ∨ ¬ ct (z_at N e j) = -1)) := if_neg hs
      rw [e1]
      dsimp only
      generalize hw : z_wk K A L bn ct e N j = w at *
      generalize z_at N e j = p at *
      have hv : (-40000 ≤ (if K p = 0 then w.2.1 + z_lit A ct e p else w.2.1).toInt ∧ (if K p = 0 then w.2.1 + z_lit A ct e p else w.2.1).toInt ≤ 40000 * ((j + 1 : Nat) : Int)) ∧ (ct p = -1 → 0 ≤ (if K p = 0 then w.2.1 + z_lit A ct e p else w.2.1).toInt) := by
        by_cases hK : K p = 0
        · rw [if_pos hK, iA_add (by omega) (by omega)]
          exact ⟨by omega, fun z => by have := hl.2.2 z; omega⟩
        · rw [if_neg hK]
          exact ⟨by omega, fun _ => c1⟩
      refine ⟨hv.1, fun z => ?_, ?_, fun x hx => ?_⟩
      · have hz := of_decide_eq_false z
        have hct : ct p = -1 := Classical.byContradiction (fun q => hz (Or.inr q))
        rw [if_pos hct] at d2
        rw [List.length_append]
        exact ⟨hv.2 hct, by omega⟩
      · rw [List.length_append]
        have : (if ct p = -1 then 1 else 2) ≤ 2 := by split <;> omega
        omega
      · rcases List.mem_append.mp hx with hx | hx
        · exact b4 x hx
        · exact d1 x hx
/-- what is seen -/
def z_see (D : Int32) (R : List zX) (x : zX) : Prop := match R.getLast? with
  | none => True
  | some y => D.toInt < x.1.1.toInt - y.1.1.toInt ∧ (40 ≤ x.1.2.1.toInt ∨ x.1.2.2 = 3)
noncomputable def z_add (D : Int32) (R : List zX) (x : zX) : List zX := @ite _ (z_see D R x) (Classical.propDecidable _) (R ++ [x]) R
noncomputable def z_seen (D : Int32) (S : List zX) : List zX := S.foldl (z_add D) []
theorem z_add_y {D : Int32} {R : List zX} {x : zX} (h : z_see D R x) : z_add D R x = R ++ [x] := if_pos h
theorem z_add_n {D : Int32} {R : List zX} {x : zX} (h : ¬ z_see D R x) : z_add D R x = R := if_neg h
theorem z_seen_app {D : Int32} {S T : List zX} : z_seen D (S ++ T) = T.foldl (z_add D) (z_seen D S) := List.foldl_append
theorem z_add_b {D : Int32} (hD : 0 ≤ D.toInt) {R : List zX} {x : zX} (h1 : z_so (R.map (·.1))) (h2 : ∀ y, y ∈ R → z_xb y) (hx : z_xb x) : z_so ((z_add D R x).map (·.1)) ∧ (∀ y, y ∈ z_add D R x → z_xb y) ∧ (z_add D R x).length ≤ R.length + 1 ∧ R.length ≤ (z_add D R x).length := by
  by_cases h : z_see D R x
  · rw [z_add_y h]
    refine ⟨?_, fun y hy => ?_, by rw [List.length_append, List.length_singleton]; omega, by rw [List.length_append]; omega⟩
    · rw [List.map_append]
      intro i j a b hij ha hb
      rcases z_snoc ha with ⟨g1, g2⟩ | ⟨g1, g2⟩
      · rcases z_snoc hb with ⟨k1, k2⟩ | ⟨k1, k2⟩
        · exact h1 i j a b hij g2 k2
        · rw [k2]
          show a.1.toInt ≤ x.1.1.toInt
          unfold z_see at h
          rw [List.length_map] at g1
          cases hq : R.getLast? with
          | none =>
            rw [List.getLast?_eq_getElem?, List.getElem?_eq_getElem (by omega)] at hq
            cases hq
          | some y =>
            rw [hq] at h
            rw [List.getLast?_eq_getElem?] at hq
            have hy : (R.map (·.1))[R.length - 1]? = some y.1 := by rw [List.getElem?_map, hq]; rfl
            have h3 : D.toInt < x.1.1.toInt - y.1.1.toInt := h.1
            by_cases e : i = R.length - 1
            · rw [e, hy] at g2
              cases g2
              omega
            · have := h1 i (R.length - 1) a y.1 (by omega) g2 hy
              omega
      · have := z_lt hb
        rw [List.length_append, List.length_map, List.length_map, List.length_singleton] at this
        rw [List.length_map] at g1
        omega
    · rcases List.mem_append.mp hy with hy | hy
      · exact h2 y hy
      · rw [List.mem_singleton.mp hy]
        exact hx
  · rw [z_add_n h]
    exact ⟨h1, h2, by omega, Nat.le_refl _⟩
theorem z_fold_b {D : Int32} (hD : 0 ≤ D.toInt) : ∀ (S R : List zX), z_so (R.map (·.1)) → (∀ y, y ∈ R → z_xb y) → (∀ y, y ∈ S → z_xb y) → z_so ((S.foldl (z_add D) R).map (·.1)) ∧ (∀ y, y ∈ S.foldl (z_add D) R → z_xb y) ∧ (S.foldl (z_add D) R).length ≤ R.length + S.length
  | [], R, h1, h2, _ => ⟨h1, h2, Nat.le_refl _⟩
  | x :: S, R, h1, h2, h3 => by
    obtain ⟨b1, b2, b3, _⟩ := z_add_b hD h1 h2 (h3 x List.mem_cons_self)
    obtain ⟨c1, c2, c3⟩ := z_fold_b hD S (z_add D R x) b1 b2 (fun y hy => h3 y (List.mem_cons_of_mem _ hy))
    refine ⟨c1, c2, ?_⟩
    rw [List.foldl_cons, List.length_cons]
    omega
theorem z_seen_b {D : Int32} (hD : 0 ≤ D.toInt) {S : List zX} (h : ∀ y, y ∈ S → z_xb y) : z_so ((z_seen D S).map (·.1)) ∧ (∀ y, y ∈ z_seen D S → z_xb y) ∧ (z_seen D S).length ≤ S.length := by
  obtain ⟨h1, h2, h3⟩ := z_fold_b hD S [] (fun i j a b _ ha _ => by cases ha) (fun y hy => by cases hy) h
  exact ⟨h1, h2, by unfold z_seen; rw [List.length_nil] at h3; omega⟩
/-- plugs that are seen and throw back enough: where they are -/
def z_mi1 (x : zX) : List Int32 := if x.1.2.2 = 2 ∧ 10 ≤ x.2.toInt ∧ 0 < x.1.1.toInt then [x.1.1] else []
def z_mi : List zX → List Int32
  | [] => []
  | x :: r => z_mi1 x ++ z_mi r
theorem z_mi_app : ∀ (a b : List zX), z_mi (a ++ b) = z_mi a ++ z_mi b
  | [], _ => rfl
  | x :: a, b => by
    show z_mi1 x ++ z_mi (a ++ b) = (z_mi1 x ++ z_mi a) ++ z_mi b
    rw [z_mi_app a b, List.append_assoc]
theorem z_mi_sn {R : List zX} {x : zX} : z_mi (R ++ [x]) = z_mi R ++ z_mi1 x := by
  rw [z_mi_app]
  show z_mi R ++ (z_mi1 x ++ []) = _
  rw [List.append_nil]
theorem z_mi1_l (x : zX) : (z_mi1 x).length ≤ 1 := by
  unfold z_mi1
  split <;> simp
theorem z_mi_l : ∀ (R : List zX), (z_mi R).length ≤ R.length
  | [] => Nat.le_refl 0
  | x :: r => by
    show (z_mi1 x ++ z_mi r).length ≤ _
    have := z_mi_l r
    have := z_mi1_l x
    rw [List.length_append, List.length_cons]
    omega
/-- a ghost -/
def z_gy (D len : Int32) (R : List zX) (d : Int32) : Prop := (2 * d).toInt < len.toInt ∧ ∀ x, x ∈ R → D.toInt < (mm_abs (x.1.1 - 2 * d)).toInt
noncomputable def z_g1 (D len : Int32) (R : List zX) (Q : List zQ) (d : Int32) : List zQ := @ite _ (z_gy D len R d) (Classical.propDecidable _) (z_ist Q (2 * d, 1, 4)) Q
theorem z_g1_y {D len d : Int32} {R : List zX} {Q : List zQ} (h : z_gy D len R d) : z_g1 D len R Q d = z_ist Q (2 * d, 1, 4) := if_pos h
theorem z_g1_n {D len d : Int32} {R : List zX} {Q : List zQ} (h : ¬ z_gy D len R d) : z_g1 D len R Q d = Q := if_neg h
noncomputable def z_row (D len : Int32) (R : List zX) : List zQ := (z_mi R).foldl (z_g1 D len R) (R.map (·.1))
/-- what a row is that has some of the ghosts -/
def z_rg (R : List zX) (Q : List zQ) : Prop := z_so Q ∧ (∀ t, t ∈ Q → ¬ t.2.2 = 4 → ∃ x, x ∈ R ∧ x.1.1 = t.1) ∧ ∀ x, x ∈ R → ∃ t, t ∈ Q ∧ t.1 = x.1.1 ∧ ¬ t.2.2 = 4
theorem z_rg_0 {R : List zX} (h1 : z_so (R.map (·.1))) (h2 : ∀ y, y ∈ R → z_xb y) : z_rg R (R.map (·.1)) := ⟨h1, fun t ht _ => by
  obtain ⟨x, hx, rfl⟩ := List.mem_map.mp ht
  exact ⟨x, hx, rfl⟩, fun x hx => ⟨x.1, List.mem_map.mpr ⟨x, hx, rfl⟩, rfl, (h2 x hx).2.2⟩⟩
theorem z_rg_i {R : List zX} {Q : List zQ} {d : Int32} (h : z_rg R Q) : z_rg R (z_ist Q (d, 1, 4)) := ⟨z_ist_so h.1, fun t ht h4 => by
  rcases z_ist_m.mp ht with rfl | ht
  · exact absurd rfl h4
  · exact h.2.1 t ht h4, fun x hx => by
  obtain ⟨t, ht, h1, h2⟩ := h.2.2 x hx
  exact ⟨t, z_ist_m.mpr (Or.inr ht), h1, h2⟩⟩
theorem z_g1_l {D len d : Int32} {R : List zX} {Q : List zQ} : (z_g1 D len R Q d).length ≤ Q.length + 1 := by
  by_cases h : z_gy D len R d
  · rw [z_g1_y h, z_ist_ln]
    omega
  · rw [z_g1_n h]
    omega
theorem z_g1_r {D len d : Int32} {R : List zX} {Q : List zQ} (h : z_rg R Q) : z_rg R (z_g1 D len R Q d) := by
  by_cases h2 : z_gy D len R d
  · rw [z_g1_y h2]
    exact z_rg_i h
  · rw [z_g1_n h2]
    exact h
theorem z_gf_r {D len : Int32} {R : List zX} : ∀ (M : List Int32) (Q : List zQ), z_rg R Q → z_rg R (M.foldl (z_g1 D len R) Q) ∧ (M.foldl (z_g1 D len R) Q).length ≤ Q.length + M.length
  | [], Q, h => ⟨h, Nat.le_refl _⟩
  | d :: M, Q, h => by
    obtain ⟨h1, h2⟩ := z_gf_r (D := D) (len := len) M (z_g1 D len R Q d) (z_g1_r h)
    refine ⟨h1, ?_⟩
    have := z_g1_l (D := D) (len := len) (d := d) (R := R) (Q := Q)
    rw [List.foldl_cons, List.length_cons]
    omega
theorem z_mi_f {D : Int32} : ∀ (S R : List zX), (z_mi (S.foldl (z_add D) R)).length ≤ (z_mi R).length + (z_mi S).length
  | [], R => Nat.le_add_right _ _
  | x :: S, R => by
    have h := z_mi_f (D := D) S (z_add D R x)
    have h2 : (z_mi (z_add D R x)).length ≤ (z_mi R).length + (z_mi1 x).length := by
      by_cases hq : z_see D R x
      · rw [z_add_y hq, z_mi_sn, List.length_append]
        omega
      · rw [z_add_n hq]
        omega
    rw [List.foldl_cons]
    show _ ≤ (z_mi R).length + (z_mi1 x ++ z_mi S).length
    rw [List.length_append]
    omega
theorem z_ps_mi {K A L bn ct : Nat → Int32} {e v : Int32} {p : Nat} : (z_mi (z_ps K A L bn ct e p v)).length ≤ 1 := by
  unfold z_ps
  by_cases hK : K p = 0
  · rw [if_pos hK, z_mi_app]
    have a1 : z_mi (if bn p ≤ 0 ∨ z_lit A ct e p < A p / 2 then ([] : List zX) else [((v + A p / 2, bn p, 0), 0)]) = [] := by
      split
      · rfl
      · show z_mi1 _ ++ [] = []
        rw [List.append_nil]
        exact if_neg (fun z => absurd (show (0 : Int32) = 2 from z.1) (by decide))
    have a2 : z_mi (if ct p = -1 then ([] : List zX) else [((v + z_lit A ct e p, 0, 3), 0)]) = [] := by
      split
      · rfl
      · show z_mi1 _ ++ [] = []
        rw [List.append_nil]
        exact if_neg (fun z => absurd (show (3 : Int32) = 2 from z.1) (by decide))
    rw [a1, a2]
    exact Nat.zero_le _
  · rw [if_neg hK]
    by_cases hK3 : K p = 3
    · rw [if_pos hK3]
      exact Nat.zero_le _
    · rw [if_neg hK3]
      show (z_mi1 _ ++ []).length ≤ 1
      rw [List.append_nil]
      exact z_mi1_l _
theorem z_wk_ml {K A L bn ct : Nat → Int32} {e : Int32} {N : Nat} : ∀ j, (z_mi (z_wk K A L bn ct e N j).1).length ≤ j
  | 0 => Nat.le_refl 0
  | j + 1 => by
    have h := z_wk_ml (K := K) (A := A) (L := L) (bn := bn) (ct := ct) (e := e) (N := N) j
    show (z_mi (z_w1 K A L bn ct e (z_at N e j) (z_wk K A L bn ct e N j)).1).length ≤ j + 1
    unfold z_w1
    by_cases hs : (z_wk K A L bn ct e N j).2.2 = true
    · rw [if_pos hs]
      omega
    · rw [if_neg hs]
      dsimp only
      have h2 := z_ps_mi (K := K) (A := A) (L := L) (bn := bn) (ct := ct) (e := e) (p := z_at N e j) (v := (z_wk K A L bn ct e N j).2.1)
      rw [z_mi_app, List.length_append]
      omega
theorem z_wk_mi {D : Int32} {K A L bn ct : Nat → Int32} {e : Int32} {N : Nat} (_ : 0 ≤ D.toInt) (_ : z_nb N K A ct) (h24 : N ≤ 24) : (z_mi (z_seen D (z_wk K A L bn ct e N N).1)).length ≤ 24 := by
  have h1 := z_mi_f (D := D) (z_wk K A L bn ct e N N).1 []
  have h2 := z_wk_ml (K := K) (A := A) (L := L) (bn := bn) (ct := ct) (e := e) (N := N) N
  have h3 : (z_mi ([] : List zX)).length = 0 := rfl
  show (z_mi ((z_wk K A L bn ct e N N).1.foldl (z_add D) [])).length ≤ 24
  omega
