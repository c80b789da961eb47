/-! what is lost by cuts: who is joined -/
def z_eg (P Q : Nat → Nat) (i x y : Nat) : Prop := (P i = x ∧ Q i = y) ∨ (Q i = x ∧ P i = y)
/-- d is reached from x in so many steps, no node of S stepped on -/
def z_rc (P Q : Nat → Nat) (C : Nat) (bar : Nat → Bool) (d : Nat) (S : List Nat) : Nat → Nat → Prop
  | 0, x => x = d
  | n + 1, x => x = d ∨ ∃ i y, i < C ∧ bar i = false ∧ z_eg P Q i x y ∧ (¬ y ∈ S) ∧ z_rc P Q C bar d S n y
theorem z_rc_w {P Q : Nat → Nat} {C : Nat} {bar : Nat → Bool} {d : Nat} {S : List Nat} {w : Nat} : ∀ n x, z_rc P Q C bar d S n x → (∃ k, z_rc P Q C bar d (w :: S) k x) ∨ ∃ k, z_rc P Q C bar d (w :: S) k w
  | 0, x, h => Or.inl ⟨0, h⟩
  | n + 1, x, h => by
    rcases h with h | ⟨i, y, hi, hb, he, hy, hr⟩
    · exact Or.inl ⟨0, h⟩
    · rcases z_rc_w (w := w) n y hr with ⟨k, hk⟩ | h2
      · by_cases hyw : y = w
        · rw [hyw] at hk
          exact Or.inr ⟨k, hk⟩
        · refine Or.inl ⟨k + 1, Or.inr ⟨i, y, hi, hb, he, fun z => ?_, hk⟩⟩
          rcases List.mem_cons.mp z with z | z
          · exact hyw z
          · exact hy z
      · exact Or.inr h2
theorem z_rc_ww {P Q : Nat → Nat} {C : Nat} {bar : Nat → Bool} {d : Nat} {S : List Nat} {w n : Nat} (h : z_rc P Q C bar d S n w) : ∃ k, z_rc P Q C bar d (w :: S) k w := by
  rcases z_rc_w (w := w) n w h with h | h
  · exact h
  · exact h
theorem z_ws_r {P Q : Nat → Nat} {C : Nat} {bar : Nat → Bool} {d : Nat} : ∀ (n : Nat) (S p : List Nat) (u : Nat) (q : List Nat), q ∈ z_ws P Q C bar d n S p u → ∃ k, z_rc P Q C bar d [] k u
  | 0, S, p, u, q, h => by cases h
  | n + 1, S, p, u, q, h => by
    by_cases hud : u = d
    · exact ⟨0, hud⟩
    · rw [z_ws_n hud] at h
      obtain ⟨i, hi, hq⟩ := List.mem_flatMap.mp h
      cases hb : z_br P Q bar S u i with
      | none =>
        rw [hb] at hq
        cases hq
      | some w =>
        rw [hb] at hq
        obtain ⟨k, hk⟩ := z_ws_r n (w :: S) (p ++ [i]) w q hq
        obtain ⟨e1, e2, e3⟩ := z_br_e hb
        exact ⟨k + 1, Or.inr ⟨i, w, List.mem_range.mp hi, e1, e3, fun z => (by cases z), hk⟩⟩
theorem z_rc_s {P Q : Nat → Nat} {C : Nat} {bar : Nat → Bool} {d : Nat} (hP : ∀ i, i < C → P i < 8 ∧ Q i < 8) : ∀ (n : Nat) (S p : List Nat) (u : Nat), u ∈ S → p.length + z_uv S ≤ 7 → 16 ≤ n + p.length → (∃ k, z_rc P Q C bar d S k u) → ¬ z_ws P Q C bar d n S p u = []
  | 0, S, p, u, _, h7, h16, _ => by omega
  | n + 1, S, p, u, hu, h7, h16, h => by
    by_cases hud : u = d
    · rw [z_ws_d hud]
      exact fun z => by cases z
    · obtain ⟨k, hk⟩ := h
      cases k with
      | zero => exact absurd hk hud
      | succ k =>
        rcases hk with hk | ⟨i, w, hi, hb, he, hw, hr⟩
        · exact absurd hk hud
        · intro hz
          rw [z_ws_n hud] at hz
          have hzi := List.flatMap_eq_nil_iff.mp hz i (List.mem_range.mpr hi)
          have ho : z_oth P Q i u = some w := by
            unfold z_oth
            rcases he with ⟨e1, e2⟩ | ⟨e1, e2⟩
            · rw [if_pos e1, e2]
            · by_cases e3 : P i = u
              · exfalso
                rw [← e2, e3] at hw
                exact hw hu
              · rw [if_neg e3, if_pos e1, e2]
          have hw8 : w < 8 := by
            rcases he with ⟨_, e⟩ | ⟨_, e⟩
            · rw [← e]
              exact (hP i hi).2
            · rw [← e]
              exact (hP i hi).1
          rw [z_br_w hb ho hw] at hzi
          have hun := z_uv_c hw8 hw
          have hl : (p ++ [i]).length = p.length + 1 := by rw [List.length_append]; rfl
          exact z_rc_s hP n (w :: S) (p ++ [i]) w List.mem_cons_self (by omega) (by omega) (z_rc_ww hr) hzi
theorem z_ws_rc {P Q : Nat → Nat} {C : Nat} {bar : Nat → Bool} {d u : Nat} (hP : ∀ i, i < C → P i < 8 ∧ Q i < 8) (hu : u < 8) : (¬ z_ws P Q C bar d 16 [u] [] u = []) ↔ ∃ k, z_rc P Q C bar d [] k u := by
  constructor
  · intro h
    cases hz : z_ws P Q C bar d 16 [u] [] u with
    | nil => exact absurd hz h
    | cons q r => exact z_ws_r 16 [u] [] u q (by rw [hz]; exact List.mem_cons_self)
  · intro ⟨k, hk⟩
    have hun := z_uv_1 hu
    exact z_rc_s hP 16 [u] [] u List.mem_cons_self (by show 0 + z_uv [u] ≤ 7; omega) (by omega) (z_rc_ww hk)
/-- nothing more is joined by this cable -/
def z_clo (P Q : Nat → Nat) (bar : Nat → Bool) (v : Int32) (j : Nat) : Prop := bar j = true ∨ (z_bt v (P j) = z_bt v (Q j))
theorem c_joind {c : mm_M} {P Q : Nat → Nat} {C d u : Nat} {bar : Nat → Bool} {U D A : Int32} (hC : C ≤ 10) (hP : ∀ i, i < C → P i < 8 ∧ Q i < 8) (h5 : c 9 0 5 = Int32.ofNat C) (h52 : ∀ i, i < C → c 52 0 i = Int32.ofNat (P i) ∧ c 53 0 i = Int32.ofNat (Q i)) (hb : ∀ i, i < 10 → z_bt A i = bar i) (hU : U.toInt = (u : Int)) (hu : u < 8) (hD : D.toInt = (d : Int)) (hd : d < 8) : vW (f_X4_isJoined U D A c) (fun r => (r = 1 ∧ ¬ z_ws P Q C bar d 16 [u] [] u = []) ∨ (r = 0 ∧ z_ws P Q C bar d 16 [u] [] u = [])) := by
  unfold f_X4_isJoined
  refine v_lI (fun v0 hv0 => ?_)
  have hv0b : ∀ x, z_bt v0 x = decide (x = u) := fun x => by
    rw [hv0]
    exact z_bt_s hU (by omega)
  clear hv0
  refine v_s1 (P := fun v => (z_bt v u = true ∧ (∀ x, z_bt v x = true → (∃ k, z_rc P Q C bar d [] k x) → ∃ k, z_rc P Q C bar d [] k u)) ∧ ∀ j, j < C → z_clo P Q bar v j) ?_ (fun v hv => ?_)
  · refine v_for (fun r s => s.2.toInt = (r : Int) ∧ (z_bt s.1 u = true ∧ (∀ x, z_bt s.1 x = true → (∃ k, z_rc P Q C bar d [] k x) → ∃ k, z_rc P Q C bar d [] k u)) ∧ ((∀ j, j < C → z_clo P Q bar s.1 j) ∨ r + 1 ≤ z_ct (z_bt s.1) 8)) 0 8 (Nat.zero_le _) (by omega) ⟨i_0, ⟨by rw [hv0b]; exact decide_eq_true rfl, fun x hx h => by rw [hv0b] at hx; rw [of_decide_eq_true hx] at h; exact h⟩, Or.inr (z_ct_pos (w := u) (by rw [hv0b]; exact decide_eq_true rfl) 8 hu)⟩ ?_ ?_
    · rintro r ⟨v, y⟩ hr ⟨hy, ⟨hvu, hvs⟩, hcl⟩
      dsimp only at hy hvu hvs hcl ⊢
      refine v_ifn (by rw [iA_le, i_8, hy]; omega) ?_
      refine v_s1 (P := fun w => (z_bt w u = true ∧ (∀ x, z_bt w x = true → (∃ k, z_rc P Q C bar d [] k x) → ∃ k, z_rc P Q C bar d [] k u)) ∧ (∀ x, z_bt v x = true → z_bt w x = true) ∧ ((∀ j, j < C → z_clo P Q bar v j) → ∀ x, z_bt w x = z_bt v x) ∧ (((∀ x, z_bt w x = z_bt v x) ∧ ∀ j, j < C → z_clo P Q bar v j) ∨ ∃ x, x < 8 ∧ z_bt w x = true ∧ z_bt v x = false)) ?_ (fun w hw => ?_)
      · refine v_for (fun i s => s.2.toInt = (i : Int) ∧ (z_bt s.1 u = true ∧ (∀ x, z_bt s.1 x = true → (∃ k, z_rc P Q C bar d [] k x) → ∃ k, z_rc P Q C bar d [] k u)) ∧ (∀ x, z_bt v x = true → z_bt s.1 x = true) ∧ ((∀ j, j < C → z_clo P Q bar v j) → ∀ x, z_bt s.1 x = z_bt v x) ∧ (((∀ x, z_bt s.1 x = z_bt v x) ∧ ∀ j, j < i → z_clo P Q bar v j) ∨ ∃ x, x < 8 ∧ z_bt s.1 x = true ∧ z_bt v x = false)) 0 C (Nat.zero_le _) (by omega) ⟨i_0, ⟨hvu, hvs⟩, fun x h => h, fun _ x => rfl, Or.inl ⟨fun x => rfl, fun j hj => absurd hj (Nat.not_lt_zero j)⟩⟩ ?_ ?_
        · rintro i ⟨w, z⟩ hi ⟨hz, ⟨hwu, hws⟩, hmo, hcs, hor⟩
          dsimp only at hz hwu hws hmo hcs hor ⊢
          have kz := n_k hz
          have iz : mm_in z 10 := v_in.mpr (by omega)
          obtain ⟨e52, e53⟩ := h52 i hi
          obtain ⟨hP8, hQ8⟩ := hP i hi
          refine v_ifn (by rw [iA_le, h5, hz, nJ_T (by omega)]; omega) ?_
          refine v_ifp iz ?_
          refine v_ifp iz ?_
          refine v_lI (fun e he => ?_)
          have heb : ∀ x, z_bt e x = (decide (x = P i) || decide (x = Q i)) := fun x => by
            rw [he, kz, e52, e53, z_bt_or, z_bt_s (nJ_T (by omega)) (by omega), z_bt_s (nJ_T (by omega)) (by omega)]
          clear he
          have same : z_clo P Q bar v i ∨ (∃ x, x < 8 ∧ z_bt w x = true ∧ z_bt v x = false) → v_st (fun s : Int32 × Int32 => s.2.toInt = ((i + 1 : Nat) : Int) ∧ (z_bt s.1 u = true ∧ (∀ x, z_bt s.1 x = true → (∃ k, z_rc P Q C bar d [] k x) → ∃ k, z_rc P Q C bar d [] k u)) ∧ (∀ x, z_bt v x = true → z_bt s.1 x = true) ∧ ((∀ j, j < C → z_clo P Q bar v j) → ∀ x, z_bt s.1 x = z_bt v x) ∧ (((∀ x, z_bt s.1 x = z_bt v x) ∧ ∀ j, j < i + 1 → z_clo P Q bar v j) ∨ ∃ x, x < 8 ∧ z_bt s.1 x = true ∧ z_bt v x = false)) (fun w : Int32 => (z_bt w u = true ∧ (∀ x, z_bt w x = true → (∃ k, z_rc P Q C bar d [] k x) → ∃ k, z_rc P Q C bar d [] k u)) ∧ (∀ x, z_bt v x = true → z_bt w x = true) ∧ ((∀ j, j < C → z_clo P Q bar v j) → ∀ x, z_bt w x = z_bt v x) ∧ (((∀ x, z_bt w x = z_bt v x) ∧ ∀ j, j < C → z_clo P Q bar v j) ∨ ∃ x, x < 8 ∧ z_bt w x = true ∧ z_bt v x = false)) (.inl (w, z + 1)) := fun hc => by
            refine v_pl.mpr ⟨n_s3 hz (by omega), ⟨hwu, hws⟩, hmo, hcs, ?_⟩
            rcases hc with hc | hc
            · rcases hor with ⟨h1, h2⟩ | h1
              · refine Or.inl ⟨h1, fun j hj => ?_⟩
                by_cases hji : j = i
                · rw [hji]
                  exact hc
                · exact h2 j (by omega)
              · exact Or.inr h1
            · exact Or.inr hc
          by_cases hbi : bar i = true
          · refine v_ifp (by rw [z_bt_t1 hz (by omega) (by rw [hb i (by omega)]; exact hbi)]; decide) ?_
            refine v_l1 ?_
            exact v_so (same (Or.inl (Or.inl hbi)))
          · have hbf : bar i = false := by
              cases hx : bar i
              · rfl
              · exact absurd hx hbi
            refine v_ifn (by rw [z_bt_t0 hz (by omega) (by rw [hb i (by omega)]; exact hbf)]; decide) ?_
            have heP : z_bt e (P i) = true := by rw [heb, decide_eq_true rfl, Bool.true_or]
            have heQ : z_bt e (Q i) = true := by rw [heb, decide_eq_true (show Q i = Q i from rfl), Bool.or_true]
            by_cases h0 : w &&& e = 0
            · refine v_ifp h0 ?_
              refine v_l1 ?_
              refine v_so (same ?_)
              have h1 := z_and0.mp h0
              have hwP : z_bt w (P i) = false := by
                cases hx : z_bt w (P i)
                · rfl
                · exact absurd ⟨hx, heP⟩ (h1 (P i))
              have hwQ : z_bt w (Q i) = false := by
                cases hx : z_bt w (Q i)
                · rfl
                · exact absurd ⟨hx, heQ⟩ (h1 (Q i))
              refine Or.inl (Or.inr ?_)
              have hvP : z_bt v (P i) = false := by
                cases hx : z_bt v (P i)
                · rfl
                · have := hmo _ hx
                  rw [hwP] at this
                  cases this
              have hvQ : z_bt v (Q i) = false := by
                cases hx : z_bt v (Q i)
                · rfl
                · have := hmo _ hx
                  rw [hwQ] at this
                  cases this
              rw [hvP, hvQ]
            · refine v_ifn h0 ?_
              refine v_lI (fun w2 hw2 => ?_)
              have hw2b : ∀ x, z_bt w2 x = (z_bt w x || (decide (x = P i) || decide (x = Q i))) := fun x => by rw [hw2, z_bt_or, heb]
              clear hw2
              refine v_l1 ?_
              have hpq : z_bt w (P i) = true ∨ z_bt w (Q i) = true := by
                by_cases h1 : z_bt w (P i) = true
                · exact Or.inl h1
                · refine Or.inr (Classical.byContradiction (fun h2 => h0 (z_and0.mpr (fun k hk => ?_))))
                  have h3 := hk.2
                  rw [heb] at h3
                  rcases Bool.or_eq_true _ _ ▸ h3 with h3 | h3
                  · rw [of_decide_eq_true h3] at hk
                    exact h1 hk.1
                  · rw [of_decide_eq_true h3] at hk
                    exact h2 hk.1
              have hmem : ∀ x, z_bt w2 x = true → z_bt w x = true ∨ x = P i ∨ x = Q i := fun x hx => by
                rw [hw2b] at hx
                rcases Bool.or_eq_true _ _ ▸ hx with hx | hx
                · exact Or.inl hx
                · rcases Bool.or_eq_true _ _ ▸ hx with hx | hx
                  · exact Or.inr (Or.inl (of_decide_eq_true hx))
                  · exact Or.inr (Or.inr (of_decide_eq_true hx))
              have hup : ∀ x, z_bt w x = true → z_bt w2 x = true := fun x hx => by rw [hw2b, hx, Bool.true_or]
              have hw2P : z_bt w2 (P i) = true := by rw [hw2b, decide_eq_true (show P i = P i from rfl), Bool.true_or, Bool.or_true]
              have hw2Q : z_bt w2 (Q i) = true := by rw [hw2b, decide_eq_true (show Q i = Q i from rfl), Bool.or_true, Bool.or_true]
              have hRP : (∃ k, z_rc P Q C bar d [] k (P i)) → ∃ k, z_rc P Q C bar d [] k u := fun ⟨k, hk⟩ => by
                rcases hpq with h1 | h1
                · exact hws _ h1 ⟨k, hk⟩
                · exact hws _ h1 ⟨k + 1, Or.inr ⟨i, P i, hi, hbf, Or.inr ⟨rfl, rfl⟩, fun z => (by cases z), hk⟩⟩
              have hRQ : (∃ k, z_rc P Q C bar d [] k (Q i)) → ∃ k, z_rc P Q C bar d [] k u := fun ⟨k, hk⟩ => by
                rcases hpq with h1 | h1
                · exact hws _ h1 ⟨k + 1, Or.inr ⟨i, Q i, hi, hbf, Or.inl ⟨rfl, rfl⟩, fun z => (by cases z), hk⟩⟩
                · exact hws _ h1 ⟨k, hk⟩
              -- both ends lie in v already, or one of them is new
              have hbo : (z_bt v (P i) = true ∧ z_bt v (Q i) = true) → ∀ x, z_bt w2 x = true → z_bt w x = true := fun ⟨g1, g2⟩ x hx => by
                rcases hmem x hx with hx | hx | hx
                · exact hx
                · rw [hx]
                  exact hmo _ g1
                · rw [hx]
                  exact hmo _ g2
              have beq : ∀ a b : Bool, (a = true ↔ b = true) → a = b := fun a b h => by
                cases a
                · cases b
                  · rfl
                  · exact absurd (h.mpr rfl) (by decide)
                · cases b
                  · exact absurd (h.mp rfl) (by decide)
                  · rfl
              refine v_il ⟨n_s3 hz (by omega), ⟨hup _ hwu, fun x hx h => ?_⟩, fun x hx => hup _ (hmo x hx), fun hc x => ?_, ?_⟩
              · rcases hmem x hx with hx | hx | hx
                · exact hws x hx h
                · rw [hx] at h
                  exact hRP h
                · rw [hx] at h
                  exact hRQ h
              · dsimp only
                have hwv := hcs hc
                have hci : z_bt v (P i) = z_bt v (Q i) := by
                  rcases hc i hi with h1 | h1
                  · rw [hbf] at h1
                    cases h1
                  · exact h1
                have hbt : z_bt v (P i) = true ∧ z_bt v (Q i) = true := by
                  rcases hpq with h1 | h1
                  · rw [hwv] at h1
                    exact ⟨h1, by rw [← hci]; exact h1⟩
                  · rw [hwv] at h1
                    exact ⟨by rw [hci]; exact h1, h1⟩
                rw [← hwv x]
                exact beq _ _ ⟨hbo hbt x, hup x⟩
              · dsimp only
                rcases hor with ⟨h1, h2⟩ | ⟨x, x1, x2, x3⟩
                · by_cases g1 : z_bt v (P i) = true
                  · by_cases g2 : z_bt v (Q i) = true
                    · refine Or.inl ⟨fun x => ?_, fun j hj => ?_⟩
                      · rw [← h1 x]
                        exact beq _ _ ⟨hbo ⟨g1, g2⟩ x, hup x⟩
                      · by_cases hji : j = i
                        · rw [hji]
                          exact Or.inr (by rw [g1, g2])
                        · exact h2 j (by omega)
                    · refine Or.inr ⟨Q i, hQ8, hw2Q, ?_⟩
                      cases hx : z_bt v (Q i)
                      · rfl
                      · exact absurd hx g2
                  · refine Or.inr ⟨P i, hP8, hw2P, ?_⟩
                    cases hx : z_bt v (P i)
                    · rfl
                    · exact absurd hx g1
                · exact Or.inr ⟨x, x1, hup x x2, x3⟩
        · rintro ⟨w, z⟩ ⟨hz, hw1, hmo, hcs, hor⟩
          dsimp only at hz hw1 hmo hcs hor ⊢
          refine v_ifp (by rw [iA_le, h5, hz, nJ_T (by omega)]; omega) ?_
          exact v_ir ⟨hw1, hmo, hcs, hor⟩
      · obtain ⟨hw1, hmo, hcs, hor⟩ := hw
        refine v_l1 ?_
        refine v_il ⟨n_s3 hy (by omega), hw1, ?_⟩
        dsimp only
        have tr : (∀ x, z_bt w x = z_bt v x) → (∀ j, j < C → z_clo P Q bar v j) → ∀ j, j < C → z_clo P Q bar w j := fun h1 h2 j hj => by
          rcases h2 j hj with h3 | h3
          · exact Or.inl h3
          · refine Or.inr ?_
            rw [h1, h1]
            exact h3
        rcases hor with ⟨h1, h2⟩ | ⟨x, x1, x2, x3⟩
        · exact Or.inl (tr h1 h2)
        · rcases hcl with hcl | hcl
          · exact Or.inl (tr (hcs hcl) hcl)
          · refine Or.inr ?_
            have h1 := z_cnt (e := z_bt w) (b := z_bt v) (r := fun y => decide (y = x)) 8 (fun y _ h => hmo y h) (fun y _ h => by rw [of_decide_eq_true h]; exact x2) (fun y _ h => decide_eq_false (fun hyx => by rw [hyx, x3] at h; cases h))
            have h2 := z_ct_pos (f := fun y => decide (y = x)) (w := x) (decide_eq_true rfl) 8 x1
            omega
    · rintro ⟨v, y⟩ ⟨hy, hv, hcl⟩
      dsimp only at hy hv hcl ⊢
      refine v_ifp (by rw [iA_le, i_8, hy]; omega) ?_
      refine v_ir ⟨hv, ?_⟩
      rcases hcl with hcl | hcl
      · exact hcl
      · have := z_ct_le (z_bt v) 8
        omega
  · obtain ⟨⟨hvu, hvs⟩, hcl⟩ := hv
    have hco : ∀ k x, z_rc P Q C bar d [] k x → z_bt v x = true → z_bt v d = true := fun k => by
      induction k with
      | zero =>
        intro x h hx
        have h2 : x = d := h
        rw [← h2]
        exact hx
      | succ k ih =>
        intro x h hx
        rcases h with h | ⟨i, y, hi, hbi, he, _, hr⟩
        · rw [← h]
          exact hx
        · refine ih y hr ?_
          rcases hcl i hi with h1 | h1
          · rw [hbi] at h1
            cases h1
          · rcases he with ⟨e1, e2⟩ | ⟨e1, e2⟩
            · rw [← e2, ← h1, e1]
              exact hx
            · rw [← e2, h1, e1]
              exact hx
    by_cases hvd : z_bt v d = true
    · refine v_ifn (fun z => z (z_bt_t1 hD (by omega) hvd)) ?_
      refine v_so (Or.inl ⟨rfl, ?_⟩)
      exact (z_ws_rc hP hu).mpr (hvs d hvd ⟨0, rfl⟩)
    · have hvf : z_bt v d = false := by
        cases hx : z_bt v d
        · rfl
        · exact absurd hx hvd
      refine v_ifp (by rw [z_bt_t0 hD (by omega) hvf]; decide) ?_
      refine v_so (Or.inr ⟨rfl, ?_⟩)
      refine Classical.byContradiction (fun hz => hvd ?_)
      obtain ⟨k, hk⟩ := (z_ws_rc hP hu).mp hz
      exact hco k u hk hvu
