/-! the law's rows out of what the functions of the two programs say (by program: wip/gen/gen_law.py) -/
theorem q_fr {m m' : mm_M} {v : Int32} {a : Nat → Int32} (h : m' 134 = m 134) (hat : q_at m v a) : q_at m' v a := by
  intro j hj
  rw [h]
  exact hat j hj
theorem q_out {m1 m : mm_M} {x : Int32} (h : m1 134 = m 134) : (mm_w m1 133 0 0 x) 134 = m 134 := by
  rw [← h]
  funext i
  rfl
theorem q_out0 {m1 : mm_M} {x : Int32} : (mm_w m1 133 0 0 x) 133 0 0 = x := rfl
set_option maxRecDepth 100000 in
theorem r_op0 {m m' : mm_M} {a : Nat → Int32} (hop : a 0 &&& 63 = 0) {t : Int32 × mm_M} (hC : f_X11_feed (a 1) (a 2) (a 3) (a 4) (a 5) m = some t) (h134 : t.2 134 = m 134) (hM0 : f_X12_feed (a 1) (a 2) (a 3) (a 4) (a 5) t.2 = some (t.1, m')) : q_Row m m' a := by
  intro v r hat hv he
  exact ⟨0, 0, by decide, by decide, by rw [mm_ad0]; exact q_head hat hv hop rfl (q_op0 (a := a) hat (q_fr h134 hat) (k_X11_feed 999 (by decide) _ _ _ _ _ m _ hC) (k_X12_feed 999 (by decide) _ _ _ _ _ t.2 (t.1, m') hM0) he)⟩
set_option maxRecDepth 100000 in
theorem r_op1 {m m' : mm_M} {a : Nat → Int32} (hop : a 0 &&& 63 = 1) {oC : Nat ⊕ (Int32 × mm_M)} (hC : f_X11_thread (a 1) (a 2) m = some oC) (hX : ∀ e9, oC = .inl e9 → ∃ v2, f_X12_thread (a 1) (a 2) m = some (v2, m') ∧ ((e9 = 0 ∧ f_X12_thrown m' = some 1))) (hR : ∀ t, oC = .inr t → t.2 134 = m 134 ∧ ∃ v2, f_X12_thread (a 1) (a 2) (mm_w t.2 133 0 0 t.1) = some (v2, m') ∧ f_X12_thrown m' = some 0 ∧ m' 133 0 0 = v2) : q_Row m m' a := by
  intro v r hat hv he
  have hk := k_X11_thread 998 (by decide) _ _ m _ hC
  rcases oC with e9 | t
  · obtain ⟨v2, hM0, hx⟩ := hX e9 rfl
    obtain ⟨rfl, hT0⟩ := hx
    exact ⟨1, 6, by decide, by decide, q_head hat hv hop rfl (q_op1 hat hat (w_256_0 hk) (k_X12_thread 999 (by decide) _ _ m _ hM0) (k_X12_thrown 999 (by decide) _ _ hT0) (fun h9 => absurd h9 (by decide)) he)⟩
  · obtain ⟨h134, v2, hM0, hT0, h133⟩ := hR t rfl
    exact ⟨0, 0, by decide, by decide, q_head hat hv hop rfl (by rw [mm_ad0]; exact mm_ad0 r ▸ q_op1 hat (q_fr (q_out h134) hat) (w_256 hk) (k_X12_thread 999 (by decide) _ _ _ _ hM0) (k_X12_thrown 999 (by decide) _ _ hT0) (fun _ => h133) he)⟩
set_option maxRecDepth 100000 in
theorem r_op2 {m m' : mm_M} {a : Nat → Int32} (hop : a 0 &&& 63 = 2) {oC : Nat ⊕ (Int32 × mm_M)} (hC : f_X11_law (a 1) m = some oC) (hX : ∀ e9, oC = .inl e9 → ∃ v2, f_X12_law (a 1) m = some (v2, m') ∧ ((e9 = 0 ∧ f_X12_thrown m' = some 1))) (hR : ∀ t, oC = .inr t → t.2 134 = m 134 ∧ ∃ v2, f_X12_law (a 1) (mm_w t.2 133 0 0 t.1) = some (v2, m') ∧ f_X12_thrown m' = some 0 ∧ m' 133 0 0 = v2) : q_Row m m' a := by
  intro v r hat hv he
  have hk := k_X11_law 998 (by decide) _ m _ hC
  rcases oC with e9 | t
  · obtain ⟨v2, hM0, hx⟩ := hX e9 rfl
    obtain ⟨rfl, hT0⟩ := hx
    exact ⟨1, 6, by decide, by decide, q_head hat hv hop rfl (q_op2 hat hat (w_257_0 hk) (k_X12_law 999 (by decide) _ m _ hM0) (k_X12_thrown 999 (by decide) _ _ hT0) (fun h9 => absurd h9 (by decide)) he)⟩
  · obtain ⟨h134, v2, hM0, hT0, h133⟩ := hR t rfl
    exact ⟨0, 0, by decide, by decide, q_head hat hv hop rfl (by rw [mm_ad0]; exact mm_ad0 r ▸ q_op2 hat (q_fr (q_out h134) hat) (w_257 hk) (k_X12_law 999 (by decide) _ _ _ hM0) (k_X12_thrown 999 (by decide) _ _ hT0) (fun _ => h133) he)⟩
set_option maxRecDepth 100000 in
theorem r_op3 {m m' : mm_M} {a : Nat → Int32} (hop : a 0 &&& 63 = 3) {t : Int32} (hC : f_X11_fault  m = some t) (h134 : m 134 = m 134) (hM0 : f_X12_fault  m = some (t, m')) : q_Row m m' a := by
  intro v r hat hv he
  exact ⟨0, 0, by decide, by decide, by rw [mm_ad0]; exact q_head hat hv hop rfl (q_op3 (a := a) (k_X11_fault 999 (by decide)  m _ hC) (k_X12_fault 999 (by decide)  m (t, m') hM0) he)⟩
set_option maxRecDepth 100000 in
theorem r_op4 {m m' : mm_M} {a : Nat → Int32} (hop : a 0 &&& 63 = 4) {oC : Nat ⊕ (Int32)} (hC : f_X11_part (a 1) (a 2) (a 3) m = some oC) (hX : ∀ e9, oC = .inl e9 → ∃ v2, f_X12_part (a 1) (a 2) (a 3) m = some (v2, m') ∧ ((e9 = 1 ∧ f_X12_thrown m' = some 1))) (hR : ∀ t, oC = .inr t → m 134 = m 134 ∧ ∃ v2, f_X12_part (a 1) (a 2) (a 3) (mm_w m 133 0 0 t) = some (v2, m') ∧ f_X12_thrown m' = some 0 ∧ m' 133 0 0 = v2) : q_Row m m' a := by
  intro v r hat hv he
  have hk := k_X11_part 998 (by decide) _ _ _ m _ hC
  rcases oC with e9 | t
  · obtain ⟨v2, hM0, hx⟩ := hX e9 rfl
    obtain ⟨rfl, hT0⟩ := hx
    exact ⟨1, 6, by decide, by decide, q_head hat hv hop rfl (q_op4 hat hat (w_258_1 hk) (k_X12_part 999 (by decide) _ _ _ m _ hM0) (k_X12_thrown 999 (by decide) _ _ hT0) (fun h9 => absurd h9 (by decide)) he)⟩
  · obtain ⟨h134, v2, hM0, hT0, h133⟩ := hR t rfl
    exact ⟨0, 0, by decide, by decide, q_head hat hv hop rfl (by rw [mm_ad0]; exact mm_ad0 r ▸ q_op4 hat (q_fr (q_out h134) hat) (w_258 hk) (k_X12_part 999 (by decide) _ _ _ _ _ hM0) (k_X12_thrown 999 (by decide) _ _ hT0) (fun _ => h133) he)⟩
set_option maxRecDepth 100000 in
theorem r_op5 {m m' : mm_M} {a : Nat → Int32} (hop : a 0 &&& 63 = 5) {oC : Nat ⊕ (Int32 × mm_M)} (hC : f_X11_loss (a 1) (a 2) (a 3) (a 4) m = some oC) (hX : ∀ e9, oC = .inl e9 → ∃ v2, f_X12_loss (a 1) (a 2) (a 3) (a 4) m = some (v2, m') ∧ ((e9 = 1 ∧ f_X12_thrown m' = some 1) ∨ (e9 = 0 ∧ f_X12_thrown m' = some 2))) (hR : ∀ t, oC = .inr t → t.2 134 = m 134 ∧ ∃ v2, f_X12_loss (a 1) (a 2) (a 3) (a 4) (mm_w t.2 133 0 0 t.1) = some (v2, m') ∧ f_X12_thrown m' = some 0 ∧ m' 133 0 0 = v2) : q_Row m m' a := by
  intro v r hat hv he
  have hk := k_X11_loss 998 (by decide) _ _ _ _ m _ hC
  rcases oC with e9 | t
  · obtain ⟨v2, hM0, hx⟩ := hX e9 rfl
    rcases hx with ⟨rfl, hT0⟩ | ⟨rfl, hT0⟩
    · exact ⟨1, 6, by decide, by decide, q_head hat hv hop rfl (q_op5 hat hat (w_259_1 hk) (k_X12_loss 999 (by decide) _ _ _ _ m _ hM0) (k_X12_thrown 999 (by decide) _ _ hT0) (fun h9 => absurd h9 (by decide)) he)⟩
    · exact ⟨1, 6, by decide, by decide, q_head hat hv hop rfl (q_op5 hat hat (w_259_0 hk) (k_X12_loss 999 (by decide) _ _ _ _ m _ hM0) (k_X12_thrown 999 (by decide) _ _ hT0) (fun h9 => absurd h9 (by decide)) he)⟩
  · obtain ⟨h134, v2, hM0, hT0, h133⟩ := hR t rfl
    exact ⟨0, 0, by decide, by decide, q_head hat hv hop rfl (by rw [mm_ad0]; exact mm_ad0 r ▸ q_op5 hat (q_fr (q_out h134) hat) (w_259 hk) (k_X12_loss 999 (by decide) _ _ _ _ _ _ hM0) (k_X12_thrown 999 (by decide) _ _ hT0) (fun _ => h133) he)⟩
set_option maxRecDepth 100000 in
theorem r_op6 {m m' : mm_M} {a : Nat → Int32} (hop : a 0 &&& 63 = 6) {oC : Nat ⊕ (Int32 × mm_M)} (hC : f_X11_evenings (a 1) m = some oC) (hX : ∀ e9, oC = .inl e9 → ∃ v2, f_X12_evenings (a 1) m = some (v2, m') ∧ ((e9 = 0 ∧ f_X12_thrown m' = some 1))) (hR : ∀ t, oC = .inr t → t.2 134 = m 134 ∧ ∃ v2, f_X12_evenings (a 1) (mm_w t.2 133 0 0 t.1) = some (v2, m') ∧ f_X12_thrown m' = some 0 ∧ m' 133 0 0 = v2) : q_Row m m' a := by
  intro v r hat hv he
  have hk := k_X11_evenings 998 (by decide) _ m _ hC
  rcases oC with e9 | t
  · obtain ⟨v2, hM0, hx⟩ := hX e9 rfl
    obtain ⟨rfl, hT0⟩ := hx
    exact ⟨1, 6, by decide, by decide, q_head hat hv hop rfl (q_op6 hat hat (w_260_0 hk) (k_X12_evenings 999 (by decide) _ m _ hM0) (k_X12_thrown 999 (by decide) _ _ hT0) (fun h9 => absurd h9 (by decide)) he)⟩
  · obtain ⟨h134, v2, hM0, hT0, h133⟩ := hR t rfl
    exact ⟨0, 0, by decide, by decide, q_head hat hv hop rfl (by rw [mm_ad0]; exact mm_ad0 r ▸ q_op6 hat (q_fr (q_out h134) hat) (w_260 hk) (k_X12_evenings 999 (by decide) _ _ _ hM0) (k_X12_thrown 999 (by decide) _ _ hT0) (fun _ => h133) he)⟩
set_option maxRecDepth 100000 in
theorem r_op7 {m m' : mm_M} {a : Nat → Int32} (hop : a 0 &&& 63 = 7) {oC : Nat ⊕ (Int32 × mm_M)} (hC : f_X11_event (a 1) (a 2) (a 3) (a 4) (a 5) m = some oC) (hX : ∀ e9, oC = .inl e9 → ∃ v2, f_X12_event (a 1) (a 2) (a 3) (a 4) (a 5) m = some (v2, m') ∧ ((e9 = 1 ∧ f_X12_thrown m' = some 1))) (hR : ∀ t, oC = .inr t → t.2 134 = m 134 ∧ ∃ v2, f_X12_event (a 1) (a 2) (a 3) (a 4) (a 5) (mm_w t.2 133 0 0 t.1) = some (v2, m') ∧ f_X12_thrown m' = some 0 ∧ m' 133 0 0 = v2) : q_Row m m' a := by
  intro v r hat hv he
  have hk := k_X11_event 998 (by decide) _ _ _ _ _ m _ hC
  rcases oC with e9 | t
  · obtain ⟨v2, hM0, hx⟩ := hX e9 rfl
    obtain ⟨rfl, hT0⟩ := hx
    exact ⟨1, 6, by decide, by decide, q_head hat hv hop rfl (q_op7 hat hat (w_261_1 hk) (k_X12_event 999 (by decide) _ _ _ _ _ m _ hM0) (k_X12_thrown 999 (by decide) _ _ hT0) (fun h9 => absurd h9 (by decide)) he)⟩
  · obtain ⟨h134, v2, hM0, hT0, h133⟩ := hR t rfl
    exact ⟨0, 0, by decide, by decide, q_head hat hv hop rfl (by rw [mm_ad0]; exact mm_ad0 r ▸ q_op7 hat (q_fr (q_out h134) hat) (w_261 hk) (k_X12_event 999 (by decide) _ _ _ _ _ _ _ hM0) (k_X12_thrown 999 (by decide) _ _ hT0) (fun _ => h133) he)⟩
set_option maxRecDepth 100000 in
theorem r_op8 {m m' : mm_M} {a : Nat → Int32} (hop : a 0 &&& 63 = 8) {oC : Nat ⊕ (Int32 × mm_M)} (hC : f_X11_back (a 1) m = some oC) (hX : ∀ e9, oC = .inl e9 → ∃ v2, f_X12_back (a 1) m = some (v2, m') ∧ ((e9 = 1 ∧ f_X12_thrown m' = some 1))) (hR : ∀ t, oC = .inr t → t.2 134 = m 134 ∧ ∃ v2, f_X12_back (a 1) (mm_w t.2 133 0 0 (mm_bz t.1)) = some (v2, m') ∧ f_X12_thrown m' = some 0 ∧ m' 133 0 0 = mm_bz v2) : q_Row m m' a := by
  intro v r hat hv he
  have hk := k_X11_back 998 (by decide) _ m _ hC
  rcases oC with e9 | t
  · obtain ⟨v2, hM0, hx⟩ := hX e9 rfl
    obtain ⟨rfl, hT0⟩ := hx
    exact ⟨1, 6, by decide, by decide, q_head hat hv hop rfl (q_op8 hat hat (w_262_1 hk) (k_X12_back 999 (by decide) _ m _ hM0) (k_X12_thrown 999 (by decide) _ _ hT0) (fun h9 => absurd h9 (by decide)) he)⟩
  · obtain ⟨h134, v2, hM0, hT0, h133⟩ := hR t rfl
    exact ⟨0, 0, by decide, by decide, q_head hat hv hop rfl (by rw [mm_ad0]; exact mm_ad0 r ▸ q_op8 hat (q_fr (q_out h134) hat) (w_262 hk) (k_X12_back 999 (by decide) _ _ _ hM0) (k_X12_thrown 999 (by decide) _ _ hT0) (fun _ => h133) he)⟩
set_option maxRecDepth 100000 in
theorem r_op9 {m m' : mm_M} {a : Nat → Int32} (hop : a 0 &&& 63 = 9) {oC : Nat ⊕ (Int32 × mm_M)} (hC : f_X11_level (a 1) (a 2) (a 3) (a 4) (mm_bz (a 5)) (a 6) (a 7) m = some oC) (hX : ∀ e9, oC = .inl e9 → ∃ v2, f_X12_level (a 1) (a 2) (a 3) (a 4) (mm_bz (a 5)) (a 6) (a 7) m = some (v2, m') ∧ ((e9 = 1 ∧ f_X12_thrown m' = some 1) ∨ (e9 = 0 ∧ f_X12_thrown m' = some 2))) (hR : ∀ t, oC = .inr t → t.2 134 = m 134 ∧ ∃ v2, f_X12_level (a 1) (a 2) (a 3) (a 4) (mm_bz (a 5)) (a 6) (a 7) (mm_w t.2 133 0 0 t.1) = some (v2, m') ∧ f_X12_thrown m' = some 0 ∧ m' 133 0 0 = v2) : q_Row m m' a := by
  intro v r hat hv he
  have hk := k_X11_level 998 (by decide) _ _ _ _ _ _ _ m _ hC
  rcases oC with e9 | t
  · obtain ⟨v2, hM0, hx⟩ := hX e9 rfl
    rcases hx with ⟨rfl, hT0⟩ | ⟨rfl, hT0⟩
    · exact ⟨1, 6, by decide, by decide, q_head hat hv hop rfl (q_op9 hat hat (w_263_1 hk) (k_X12_level 999 (by decide) _ _ _ _ _ _ _ m _ hM0) (k_X12_thrown 999 (by decide) _ _ hT0) (fun h9 => absurd h9 (by decide)) he)⟩
    · exact ⟨1, 6, by decide, by decide, q_head hat hv hop rfl (q_op9 hat hat (w_263_0 hk) (k_X12_level 999 (by decide) _ _ _ _ _ _ _ m _ hM0) (k_X12_thrown 999 (by decide) _ _ hT0) (fun h9 => absurd h9 (by decide)) he)⟩
  · obtain ⟨h134, v2, hM0, hT0, h133⟩ := hR t rfl
    exact ⟨0, 0, by decide, by decide, q_head hat hv hop rfl (by rw [mm_ad0]; exact mm_ad0 r ▸ q_op9 hat (q_fr (q_out h134) hat) (w_263 hk) (k_X12_level 999 (by decide) _ _ _ _ _ _ _ _ _ hM0) (k_X12_thrown 999 (by decide) _ _ hT0) (fun _ => h133) he)⟩
set_option maxRecDepth 100000 in
theorem r_op10 {m m' : mm_M} {a : Nat → Int32} (hop : a 0 &&& 63 = 10) {oC : Nat ⊕ (Int32 × mm_M)} (hC : f_X11_margin (a 1) (a 2) (a 3) (a 4) (a 5) (a 6) m = some oC) (hX : ∀ e9, oC = .inl e9 → ∃ v2, f_X12_margin (a 1) (a 2) (a 3) (a 4) (a 5) (a 6) m = some (v2, m') ∧ ((e9 = 1 ∧ f_X12_thrown m' = some 1) ∨ (e9 = 0 ∧ f_X12_thrown m' = some 2))) (hR : ∀ t, oC = .inr t → t.2 134 = m 134 ∧ ∃ v2, f_X12_margin (a 1) (a 2) (a 3) (a 4) (a 5) (a 6) (mm_w t.2 133 0 0 t.1) = some (v2, m') ∧ f_X12_thrown m' = some 0 ∧ m' 133 0 0 = v2) : q_Row m m' a := by
  intro v r hat hv he
  have hk := k_X11_margin 998 (by decide) _ _ _ _ _ _ m _ hC
  rcases oC with e9 | t
  · obtain ⟨v2, hM0, hx⟩ := hX e9 rfl
    rcases hx with ⟨rfl, hT0⟩ | ⟨rfl, hT0⟩
    · exact ⟨1, 6, by decide, by decide, q_head hat hv hop rfl (q_op10 hat hat (w_264_1 hk) (k_X12_margin 999 (by decide) _ _ _ _ _ _ m _ hM0) (k_X12_thrown 999 (by decide) _ _ hT0) (fun h9 => absurd h9 (by decide)) he)⟩
    · exact ⟨1, 6, by decide, by decide, q_head hat hv hop rfl (q_op10 hat hat (w_264_0 hk) (k_X12_margin 999 (by decide) _ _ _ _ _ _ m _ hM0) (k_X12_thrown 999 (by decide) _ _ hT0) (fun h9 => absurd h9 (by decide)) he)⟩
  · obtain ⟨h134, v2, hM0, hT0, h133⟩ := hR t rfl
    exact ⟨0, 0, by decide, by decide, q_head hat hv hop rfl (by rw [mm_ad0]; exact mm_ad0 r ▸ q_op10 hat (q_fr (q_out h134) hat) (w_264 hk) (k_X12_margin 999 (by decide) _ _ _ _ _ _ _ _ hM0) (k_X12_thrown 999 (by decide) _ _ hT0) (fun _ => h133) he)⟩
set_option maxRecDepth 100000 in
theorem r_op11 {m m' : mm_M} {a : Nat → Int32} (hop : a 0 &&& 63 = 11) {oC : Nat ⊕ (Int32 × mm_M)} (hC : f_X11_tired (a 1) (a 2) (a 3) (a 4) m = some oC) (hX : ∀ e9, oC = .inl e9 → ∃ v2, f_X12_tired (a 1) (a 2) (a 3) (a 4) m = some (v2, m') ∧ ((e9 = 1 ∧ f_X12_thrown m' = some 1) ∨ (e9 = 0 ∧ f_X12_thrown m' = some 2))) (hR : ∀ t, oC = .inr t → t.2 134 = m 134 ∧ ∃ v2, f_X12_tired (a 1) (a 2) (a 3) (a 4) (mm_w t.2 133 0 0 t.1) = some (v2, m') ∧ f_X12_thrown m' = some 0 ∧ m' 133 0 0 = v2) : q_Row m m' a := by
  intro v r hat hv he
  have hk := k_X11_tired 998 (by decide) _ _ _ _ m _ hC
  rcases oC with e9 | t
  · obtain ⟨v2, hM0, hx⟩ := hX e9 rfl
    rcases hx with ⟨rfl, hT0⟩ | ⟨rfl, hT0⟩
    · exact ⟨1, 6, by decide, by decide, q_head hat hv hop rfl (q_op11 hat hat (w_265_1 hk) (k_X12_tired 999 (by decide) _ _ _ _ m _ hM0) (k_X12_thrown 999 (by decide) _ _ hT0) (fun h9 => absurd h9 (by decide)) he)⟩
    · exact ⟨1, 6, by decide, by decide, q_head hat hv hop rfl (q_op11 hat hat (w_265_0 hk) (k_X12_tired 999 (by decide) _ _ _ _ m _ hM0) (k_X12_thrown 999 (by decide) _ _ hT0) (fun h9 => absurd h9 (by decide)) he)⟩
  · obtain ⟨h134, v2, hM0, hT0, h133⟩ := hR t rfl
    exact ⟨0, 0, by decide, by decide, q_head hat hv hop rfl (by rw [mm_ad0]; exact mm_ad0 r ▸ q_op11 hat (q_fr (q_out h134) hat) (w_265 hk) (k_X12_tired 999 (by decide) _ _ _ _ _ _ hM0) (k_X12_thrown 999 (by decide) _ _ hT0) (fun _ => h133) he)⟩
set_option maxRecDepth 100000 in
theorem r_op12 {m m' : mm_M} {a : Nat → Int32} (hop : a 0 &&& 63 = 12) {oC : Nat ⊕ (Int32 × mm_M)} (hC : f_X11_dead (a 1) m = some oC) (hX : ∀ e9, oC = .inl e9 → ∃ v2, f_X12_dead (a 1) m = some (v2, m') ∧ ((e9 = 0 ∧ f_X12_thrown m' = some 1))) (hR : ∀ t, oC = .inr t → t.2 134 = m 134 ∧ ∃ v2, f_X12_dead (a 1) (mm_w t.2 133 0 0 t.1) = some (v2, m') ∧ f_X12_thrown m' = some 0 ∧ m' 133 0 0 = v2) : q_Row m m' a := by
  intro v r hat hv he
  have hk := k_X11_dead 998 (by decide) _ m _ hC
  rcases oC with e9 | t
  · obtain ⟨v2, hM0, hx⟩ := hX e9 rfl
    obtain ⟨rfl, hT0⟩ := hx
    exact ⟨1, 6, by decide, by decide, q_head hat hv hop rfl (q_op12 hat hat (w_266_0 hk) (k_X12_dead 999 (by decide) _ m _ hM0) (k_X12_thrown 999 (by decide) _ _ hT0) (fun h9 => absurd h9 (by decide)) he)⟩
  · obtain ⟨h134, v2, hM0, hT0, h133⟩ := hR t rfl
    exact ⟨0, 0, by decide, by decide, q_head hat hv hop rfl (by rw [mm_ad0]; exact mm_ad0 r ▸ q_op12 hat (q_fr (q_out h134) hat) (w_266 hk) (k_X12_dead 999 (by decide) _ _ _ hM0) (k_X12_thrown 999 (by decide) _ _ hT0) (fun _ => h133) he)⟩
set_option maxRecDepth 100000 in
theorem r_op13 {m m' : mm_M} {a : Nat → Int32} (hop : a 0 &&& 63 = 13) {oC : Nat ⊕ (Int32 × mm_M)} (hC : f_X11_echo (a 1) (a 2) (mm_bz (a 3)) (a 4) (a 5) m = some oC) (hX : ∀ e9, oC = .inl e9 → ∃ v2, f_X12_echo (a 1) (a 2) (mm_bz (a 3)) (a 4) (a 5) m = some (v2, m') ∧ ((e9 = 1 ∧ f_X12_thrown m' = some 1) ∨ (e9 = 0 ∧ f_X12_thrown m' = some 2))) (hR : ∀ t, oC = .inr t → t.2 134 = m 134 ∧ ∃ v2, f_X12_echo (a 1) (a 2) (mm_bz (a 3)) (a 4) (a 5) (mm_w t.2 133 0 0 t.1) = some (v2, m') ∧ f_X12_thrown m' = some 0 ∧ m' 133 0 0 = v2) : q_Row m m' a := by
  intro v r hat hv he
  have hk := k_X11_echo 998 (by decide) _ _ _ _ _ m _ hC
  rcases oC with e9 | t
  · obtain ⟨v2, hM0, hx⟩ := hX e9 rfl
    rcases hx with ⟨rfl, hT0⟩ | ⟨rfl, hT0⟩
    · exact ⟨1, 6, by decide, by decide, q_head hat hv hop rfl (q_op13 hat hat (w_267_1 hk) (k_X12_echo 999 (by decide) _ _ _ _ _ m _ hM0) (k_X12_thrown 999 (by decide) _ _ hT0) (fun h9 => absurd h9 (by decide)) he)⟩
    · exact ⟨1, 6, by decide, by decide, q_head hat hv hop rfl (q_op13 hat hat (w_267_0 hk) (k_X12_echo 999 (by decide) _ _ _ _ _ m _ hM0) (k_X12_thrown 999 (by decide) _ _ hT0) (fun h9 => absurd h9 (by decide)) he)⟩
  · obtain ⟨h134, v2, hM0, hT0, h133⟩ := hR t rfl
    exact ⟨0, 0, by decide, by decide, q_head hat hv hop rfl (by rw [mm_ad0]; exact mm_ad0 r ▸ q_op13 hat (q_fr (q_out h134) hat) (w_267 hk) (k_X12_echo 999 (by decide) _ _ _ _ _ _ _ hM0) (k_X12_thrown 999 (by decide) _ _ hT0) (fun _ => h133) he)⟩
set_option maxRecDepth 100000 in
theorem r_op14 {m m' : mm_M} {a : Nat → Int32} (hop : a 0 &&& 63 = 14) {oC : Nat ⊕ (Int32)} (hC : f_X11_echoed (a 1) (a 2) m = some oC) (hX : ∀ e9, oC = .inl e9 → ∃ v2, f_X12_echoed (a 1) (a 2) m = some (v2, m') ∧ ((e9 = 1 ∧ f_X12_thrown m' = some 1))) (hR : ∀ t, oC = .inr t → m 134 = m 134 ∧ ∃ v2, f_X12_echoed (a 1) (a 2) (mm_w m 133 0 0 t) = some (v2, m') ∧ f_X12_thrown m' = some 0 ∧ m' 133 0 0 = v2) : q_Row m m' a := by
  intro v r hat hv he
  have hk := k_X11_echoed 998 (by decide) _ _ m _ hC
  rcases oC with e9 | t
  · obtain ⟨v2, hM0, hx⟩ := hX e9 rfl
    obtain ⟨rfl, hT0⟩ := hx
    exact ⟨1, 6, by decide, by decide, q_head hat hv hop rfl (q_op14 hat hat (w_268_1 hk) (k_X12_echoed 999 (by decide) _ _ m _ hM0) (k_X12_thrown 999 (by decide) _ _ hT0) (fun h9 => absurd h9 (by decide)) he)⟩
  · obtain ⟨h134, v2, hM0, hT0, h133⟩ := hR t rfl
    exact ⟨0, 0, by decide, by decide, q_head hat hv hop rfl (by rw [mm_ad0]; exact mm_ad0 r ▸ q_op14 hat (q_fr (q_out h134) hat) (w_268 hk) (k_X12_echoed 999 (by decide) _ _ _ _ hM0) (k_X12_thrown 999 (by decide) _ _ hT0) (fun _ => h133) he)⟩
set_option maxRecDepth 100000 in
theorem r_op15 {m m' : mm_M} {a : Nat → Int32} (hop : a 0 &&& 63 = 15) {oC : Nat ⊕ (mm_M)} (hC : f_X11_look (a 1) m = some oC) (hX : ∀ e9, oC = .inl e9 → f_X12_look (a 1) m = some m' ∧ ((e9 = 1 ∧ f_X12_thrown m' = some 1))) (hR : ∀ t, oC = .inr t → t 134 = m 134 ∧ f_X12_look (a 1) t = some m' ∧ f_X12_thrown m' = some 0) : q_Row m m' a := by
  intro v r hat hv he
  have hk := k_X11_look 998 (by decide) _ m _ hC
  rcases oC with e9 | t
  · obtain ⟨hM0, hx⟩ := hX e9 rfl
    obtain ⟨rfl, hT0⟩ := hx
    exact ⟨1, 6, by decide, by decide, q_head hat hv hop rfl (q_op15 hat hat (w_269_1 hk) (k_X12_look 999 (by decide) _ m _ hM0) (k_X12_thrown 999 (by decide) _ _ hT0) he)⟩
  · obtain ⟨h134, hM0, hT0⟩ := hR t rfl
    exact ⟨0, 0, by decide, by decide, q_head hat hv hop rfl (by rw [mm_ad0]; exact mm_ad0 r ▸ q_op15 hat (q_fr h134 hat) (w_269 hk) (k_X12_look 999 (by decide) _ _ _ hM0) (k_X12_thrown 999 (by decide) _ _ hT0) he)⟩
set_option maxRecDepth 100000 in
theorem r_op16 {m m' : mm_M} {a : Nat → Int32} (hop : a 0 &&& 63 = 16) {oC : Nat ⊕ (Int32 × mm_M)} (hC : f_X11_suspect (a 1) (a 2) m = some oC) (hX : ∀ e9, oC = .inl e9 → ∃ v2, f_X12_suspect (a 1) (a 2) m = some (v2, m') ∧ ((e9 = 1 ∧ f_X12_thrown m' = some 1))) (hR : ∀ t, oC = .inr t → t.2 134 = m 134 ∧ ∃ v2, f_X12_suspect (a 1) (a 2) (mm_w t.2 133 0 0 t.1) = some (v2, m') ∧ f_X12_thrown m' = some 0 ∧ m' 133 0 0 = v2) : q_Row m m' a := by
  intro v r hat hv he
  have hk := k_X11_suspect 998 (by decide) _ _ m _ hC
  rcases oC with e9 | t
  · obtain ⟨v2, hM0, hx⟩ := hX e9 rfl
    obtain ⟨rfl, hT0⟩ := hx
    exact ⟨1, 6, by decide, by decide, q_head hat hv hop rfl (q_op16 hat hat (w_270_1 hk) (k_X12_suspect 999 (by decide) _ _ m _ hM0) (k_X12_thrown 999 (by decide) _ _ hT0) (fun h9 => absurd h9 (by decide)) he)⟩
  · obtain ⟨h134, v2, hM0, hT0, h133⟩ := hR t rfl
    exact ⟨0, 0, by decide, by decide, q_head hat hv hop rfl (by rw [mm_ad0]; exact mm_ad0 r ▸ q_op16 hat (q_fr (q_out h134) hat) (w_270 hk) (k_X12_suspect 999 (by decide) _ _ _ _ hM0) (k_X12_thrown 999 (by decide) _ _ hT0) (fun _ => h133) he)⟩
set_option maxRecDepth 100000 in
theorem r_op17 {m m' : mm_M} {a : Nat → Int32} (hop : a 0 &&& 63 = 17) {oC : Nat ⊕ (Int32 × mm_M)} (hC : f_X11_seen (mm_bz (a 1)) m = some oC) (hX : ∀ e9, oC = .inl e9 → ∃ v2, f_X12_seen (mm_bz (a 1)) m = some (v2, m') ∧ ((e9 = 1 ∧ f_X12_thrown m' = some 1))) (hR : ∀ t, oC = .inr t → t.2 134 = m 134 ∧ ∃ v2, f_X12_seen (mm_bz (a 1)) (mm_w t.2 133 0 0 (mm_bz t.1)) = some (v2, m') ∧ f_X12_thrown m' = some 0 ∧ m' 133 0 0 = mm_bz v2) : q_Row m m' a := by
  intro v r hat hv he
  have hk := k_X11_seen 998 (by decide) _ m _ hC
  rcases oC with e9 | t
  · obtain ⟨v2, hM0, hx⟩ := hX e9 rfl
    obtain ⟨rfl, hT0⟩ := hx
    exact ⟨1, 6, by decide, by decide, q_head hat hv hop rfl (q_op17 hat hat (w_271_1 hk) (k_X12_seen 999 (by decide) _ m _ hM0) (k_X12_thrown 999 (by decide) _ _ hT0) (fun h9 => absurd h9 (by decide)) he)⟩
  · obtain ⟨h134, v2, hM0, hT0, h133⟩ := hR t rfl
    exact ⟨0, 0, by decide, by decide, q_head hat hv hop rfl (by rw [mm_ad0]; exact mm_ad0 r ▸ q_op17 hat (q_fr (q_out h134) hat) (w_271 hk) (k_X12_seen 999 (by decide) _ _ _ hM0) (k_X12_thrown 999 (by decide) _ _ hT0) (fun _ => h133) he)⟩
set_option maxRecDepth 100000 in
theorem r_op18 {m m' : mm_M} {a : Nat → Int32} (hop : a 0 &&& 63 = 18) {oC : Nat ⊕ (Int32 × mm_M)} (hC : f_X11_readBack (a 1) m = some oC) (hX : ∀ e9, oC = .inl e9 → ∃ v2, f_X12_readBack (a 1) m = some (v2, m') ∧ ((e9 = 1 ∧ f_X12_thrown m' = some 1))) (hR : ∀ t, oC = .inr t → t.2 134 = m 134 ∧ ∃ v2, f_X12_readBack (a 1) (mm_w t.2 133 0 0 t.1) = some (v2, m') ∧ f_X12_thrown m' = some 0 ∧ m' 133 0 0 = v2) : q_Row m m' a := by
  intro v r hat hv he
  have hk := k_X11_readBack 998 (by decide) _ m _ hC
  rcases oC with e9 | t
  · obtain ⟨v2, hM0, hx⟩ := hX e9 rfl
    obtain ⟨rfl, hT0⟩ := hx
    exact ⟨1, 6, by decide, by decide, q_head hat hv hop rfl (q_op18 hat hat (w_272_1 hk) (k_X12_readBack 999 (by decide) _ m _ hM0) (k_X12_thrown 999 (by decide) _ _ hT0) (fun h9 => absurd h9 (by decide)) he)⟩
  · obtain ⟨h134, v2, hM0, hT0, h133⟩ := hR t rfl
    exact ⟨0, 0, by decide, by decide, q_head hat hv hop rfl (by rw [mm_ad0]; exact mm_ad0 r ▸ q_op18 hat (q_fr (q_out h134) hat) (w_272 hk) (k_X12_readBack 999 (by decide) _ _ _ hM0) (k_X12_thrown 999 (by decide) _ _ hT0) (fun _ => h133) he)⟩
set_option maxRecDepth 100000 in
theorem r_op19 {m m' : mm_M} {a : Nat → Int32} (hop : a 0 &&& 63 = 19) {oC : Nat ⊕ (Int32)} (hC : f_X11_found (a 1) m = some oC) (hX : ∀ e9, oC = .inl e9 → ∃ v2, f_X12_found (a 1) m = some (v2, m') ∧ ((e9 = 1 ∧ f_X12_thrown m' = some 1))) (hR : ∀ t, oC = .inr t → m 134 = m 134 ∧ ∃ v2, f_X12_found (a 1) (mm_w m 133 0 0 t) = some (v2, m') ∧ f_X12_thrown m' = some 0 ∧ m' 133 0 0 = v2) : q_Row m m' a := by
  intro v r hat hv he
  have hk := k_X11_found 998 (by decide) _ m _ hC
  rcases oC with e9 | t
  · obtain ⟨v2, hM0, hx⟩ := hX e9 rfl
    obtain ⟨rfl, hT0⟩ := hx
    exact ⟨1, 6, by decide, by decide, q_head hat hv hop rfl (q_op19 hat hat (w_273_1 hk) (k_X12_found 999 (by decide) _ m _ hM0) (k_X12_thrown 999 (by decide) _ _ hT0) (fun h9 => absurd h9 (by decide)) he)⟩
  · obtain ⟨h134, v2, hM0, hT0, h133⟩ := hR t rfl
    exact ⟨0, 0, by decide, by decide, q_head hat hv hop rfl (by rw [mm_ad0]; exact mm_ad0 r ▸ q_op19 hat (q_fr (q_out h134) hat) (w_273 hk) (k_X12_found 999 (by decide) _ _ _ hM0) (k_X12_thrown 999 (by decide) _ _ hT0) (fun _ => h133) he)⟩
set_option maxRecDepth 100000 in
theorem r_op20 {m m' : mm_M} {a : Nat → Int32} (hop : a 0 &&& 63 = 20) {oC : Nat ⊕ (Int32)} (hC : f_X11_dig (a 1) (a 2) (a 3) (a 4) m = some oC) (hX : ∀ e9, oC = .inl e9 → ∃ v2, f_X12_dig (a 1) (a 2) (a 3) (a 4) m = some (v2, m') ∧ ((e9 = 0 ∧ f_X12_thrown m' = some 1) ∨ (e9 = 1 ∧ f_X12_thrown m' = some 2))) (hR : ∀ t, oC = .inr t → m 134 = m 134 ∧ ∃ v2, f_X12_dig (a 1) (a 2) (a 3) (a 4) (mm_w m 133 0 0 t) = some (v2, m') ∧ f_X12_thrown m' = some 0 ∧ m' 133 0 0 = v2) : q_Row m m' a := by
  intro v r hat hv he
  have hk := k_X11_dig 998 (by decide) _ _ _ _ m _ hC
  rcases oC with e9 | t
  · obtain ⟨v2, hM0, hx⟩ := hX e9 rfl
    rcases hx with ⟨rfl, hT0⟩ | ⟨rfl, hT0⟩
    · exact ⟨1, 6, by decide, by decide, q_head hat hv hop rfl (q_op20 hat hat (w_274_0 hk) (k_X12_dig 999 (by decide) _ _ _ _ m _ hM0) (k_X12_thrown 999 (by decide) _ _ hT0) (fun h9 => absurd h9 (by decide)) he)⟩
    · exact ⟨1, 6, by decide, by decide, q_head hat hv hop rfl (q_op20 hat hat (w_274_1 hk) (k_X12_dig 999 (by decide) _ _ _ _ m _ hM0) (k_X12_thrown 999 (by decide) _ _ hT0) (fun h9 => absurd h9 (by decide)) he)⟩
  · obtain ⟨h134, v2, hM0, hT0, h133⟩ := hR t rfl
    exact ⟨0, 0, by decide, by decide, q_head hat hv hop rfl (by rw [mm_ad0]; exact mm_ad0 r ▸ q_op20 hat (q_fr (q_out h134) hat) (w_274 hk) (k_X12_dig 999 (by decide) _ _ _ _ _ _ hM0) (k_X12_thrown 999 (by decide) _ _ hT0) (fun _ => h133) he)⟩
set_option maxRecDepth 100000 in
theorem r_op21 {m m' : mm_M} {a : Nat → Int32} (hop : a 0 &&& 63 = 21) {oC : Nat ⊕ (Int32)} (hC : f_X11_both (a 1) (a 2) (a 3) (a 4) (a 5) (a 6) m = some oC) (hX : ∀ e9, oC = .inl e9 → ∃ v2, f_X12_both (a 1) (a 2) (a 3) (a 4) (a 5) (a 6) m = some (v2, m') ∧ ((e9 = 0 ∧ f_X12_thrown m' = some 1) ∨ (e9 = 1 ∧ f_X12_thrown m' = some 2))) (hR : ∀ t, oC = .inr t → m 134 = m 134 ∧ ∃ v2, f_X12_both (a 1) (a 2) (a 3) (a 4) (a 5) (a 6) (mm_w m 133 0 0 t) = some (v2, m') ∧ f_X12_thrown m' = some 0 ∧ m' 133 0 0 = v2) : q_Row m m' a := by
  intro v r hat hv he
  have hk := k_X11_both 998 (by decide) _ _ _ _ _ _ m _ hC
  rcases oC with e9 | t
  · obtain ⟨v2, hM0, hx⟩ := hX e9 rfl
    rcases hx with ⟨rfl, hT0⟩ | ⟨rfl, hT0⟩
    · exact ⟨1, 6, by decide, by decide, q_head hat hv hop rfl (q_op21 hat hat (w_275_0 hk) (k_X12_both 999 (by decide) _ _ _ _ _ _ m _ hM0) (k_X12_thrown 999 (by decide) _ _ hT0) (fun h9 => absurd h9 (by decide)) he)⟩
    · exact ⟨1, 6, by decide, by decide, q_head hat hv hop rfl (q_op21 hat hat (w_275_1 hk) (k_X12_both 999 (by decide) _ _ _ _ _ _ m _ hM0) (k_X12_thrown 999 (by decide) _ _ hT0) (fun h9 => absurd h9 (by decide)) he)⟩
  · obtain ⟨h134, v2, hM0, hT0, h133⟩ := hR t rfl
    exact ⟨0, 0, by decide, by decide, q_head hat hv hop rfl (by rw [mm_ad0]; exact mm_ad0 r ▸ q_op21 hat (q_fr (q_out h134) hat) (w_275 hk) (k_X12_both 999 (by decide) _ _ _ _ _ _ _ _ hM0) (k_X12_thrown 999 (by decide) _ _ hT0) (fun _ => h133) he)⟩
set_option maxRecDepth 100000 in
theorem r_op22 {m m' : mm_M} {a : Nat → Int32} (hop : a 0 &&& 63 = 22) {oC : Nat ⊕ (Int32 × mm_M)} (hC : f_X11_lamps (a 1) (a 2) (a 3) (a 4) (a 5) (a 6) (a 7) (a 8) m = some oC) (hX : ∀ e9, oC = .inl e9 → ∃ v2, f_X12_lamps (a 1) (a 2) (a 3) (a 4) (a 5) (a 6) (a 7) (a 8) m = some (v2, m') ∧ ((e9 = 1 ∧ f_X12_thrown m' = some 1) ∨ (e9 = 0 ∧ f_X12_thrown m' = some 2))) (hR : ∀ t, oC = .inr t → t.2 134 = m 134 ∧ ∃ v2, f_X12_lamps (a 1) (a 2) (a 3) (a 4) (a 5) (a 6) (a 7) (a 8) (mm_w t.2 133 0 0 t.1) = some (v2, m') ∧ f_X12_thrown m' = some 0 ∧ m' 133 0 0 = v2) : q_Row m m' a := by
  intro v r hat hv he
  have hk := k_X11_lamps 998 (by decide) _ _ _ _ _ _ _ _ m _ hC
  rcases oC with e9 | t
  · obtain ⟨v2, hM0, hx⟩ := hX e9 rfl
    rcases hx with ⟨rfl, hT0⟩ | ⟨rfl, hT0⟩
    · exact ⟨1, 6, by decide, by decide, q_head hat hv hop rfl (q_op22 hat hat (w_276_1 hk) (k_X12_lamps 999 (by decide) _ _ _ _ _ _ _ _ m _ hM0) (k_X12_thrown 999 (by decide) _ _ hT0) (fun h9 => absurd h9 (by decide)) he)⟩
    · exact ⟨1, 6, by decide, by decide, q_head hat hv hop rfl (q_op22 hat hat (w_276_0 hk) (k_X12_lamps 999 (by decide) _ _ _ _ _ _ _ _ m _ hM0) (k_X12_thrown 999 (by decide) _ _ hT0) (fun h9 => absurd h9 (by decide)) he)⟩
  · obtain ⟨h134, v2, hM0, hT0, h133⟩ := hR t rfl
    exact ⟨0, 0, by decide, by decide, q_head hat hv hop rfl (by rw [mm_ad0]; exact mm_ad0 r ▸ q_op22 hat (q_fr (q_out h134) hat) (w_276 hk) (k_X12_lamps 999 (by decide) _ _ _ _ _ _ _ _ _ _ hM0) (k_X12_thrown 999 (by decide) _ _ hT0) (fun _ => h133) he)⟩
set_option maxRecDepth 100000 in
theorem r_op23 {m m' : mm_M} {a : Nat → Int32} (hop : a 0 &&& 63 = 23) {oC : Nat ⊕ (Int32)} (hC : f_X11_steps (a 1) m = some oC) (hX : ∀ e9, oC = .inl e9 → ∃ v2, f_X12_steps (a 1) m = some (v2, m') ∧ ((e9 = 1 ∧ f_X12_thrown m' = some 1))) (hR : ∀ t, oC = .inr t → m 134 = m 134 ∧ ∃ v2, f_X12_steps (a 1) (mm_w m 133 0 0 t) = some (v2, m') ∧ f_X12_thrown m' = some 0 ∧ m' 133 0 0 = v2) : q_Row m m' a := by
  intro v r hat hv he
  have hk := k_X11_steps 998 (by decide) _ m _ hC
  rcases oC with e9 | t
  · obtain ⟨v2, hM0, hx⟩ := hX e9 rfl
    obtain ⟨rfl, hT0⟩ := hx
    exact ⟨1, 6, by decide, by decide, q_head hat hv hop rfl (q_op23 hat hat (w_277_1 hk) (k_X12_steps 999 (by decide) _ m _ hM0) (k_X12_thrown 999 (by decide) _ _ hT0) (fun h9 => absurd h9 (by decide)) he)⟩
  · obtain ⟨h134, v2, hM0, hT0, h133⟩ := hR t rfl
    exact ⟨0, 0, by decide, by decide, q_head hat hv hop rfl (by rw [mm_ad0]; exact mm_ad0 r ▸ q_op23 hat (q_fr (q_out h134) hat) (w_277 hk) (k_X12_steps 999 (by decide) _ _ _ hM0) (k_X12_thrown 999 (by decide) _ _ hT0) (fun _ => h133) he)⟩
set_option maxRecDepth 100000 in
theorem r_op24 {m m' : mm_M} {a : Nat → Int32} (hop : a 0 &&& 63 = 24) {oC : Nat ⊕ (Int32 × mm_M)} (hC : f_X11_cable (a 1) (a 2) (a 3) (a 4) m = some oC) (hX : ∀ e9, oC = .inl e9 → ∃ v2, f_X12_cable (a 1) (a 2) (a 3) (a 4) m = some (v2, m') ∧ ((e9 = 1 ∧ f_X12_thrown m' = some 1))) (hR : ∀ t, oC = .inr t → t.2 134 = m 134 ∧ ∃ v2, f_X12_cable (a 1) (a 2) (a 3) (a 4) (mm_w t.2 133 0 0 t.1) = some (v2, m') ∧ f_X12_thrown m' = some 0 ∧ m' 133 0 0 = v2) : q_Row m m' a := by
  intro v r hat hv he
  have hk := k_X11_cable 998 (by decide) _ _ _ _ m _ hC
  rcases oC with e9 | t
  · obtain ⟨v2, hM0, hx⟩ := hX e9 rfl
    obtain ⟨rfl, hT0⟩ := hx
    exact ⟨1, 6, by decide, by decide, q_head hat hv hop rfl (q_op24 hat hat (w_278_1 hk) (k_X12_cable 999 (by decide) _ _ _ _ m _ hM0) (k_X12_thrown 999 (by decide) _ _ hT0) (fun h9 => absurd h9 (by decide)) he)⟩
  · obtain ⟨h134, v2, hM0, hT0, h133⟩ := hR t rfl
    exact ⟨0, 0, by decide, by decide, q_head hat hv hop rfl (by rw [mm_ad0]; exact mm_ad0 r ▸ q_op24 hat (q_fr (q_out h134) hat) (w_278 hk) (k_X12_cable 999 (by decide) _ _ _ _ _ _ hM0) (k_X12_thrown 999 (by decide) _ _ hT0) (fun _ => h133) he)⟩
set_option maxRecDepth 100000 in
theorem r_op25 {m m' : mm_M} {a : Nat → Int32} (hop : a 0 &&& 63 = 25) {oC : Nat ⊕ (Int32 × mm_M)} (hC : f_X11_task (a 1) (a 2) m = some oC) (hX : ∀ e9, oC = .inl e9 → ∃ v2, f_X12_task (a 1) (a 2) m = some (v2, m') ∧ ((e9 = 1 ∧ f_X12_thrown m' = some 1))) (hR : ∀ t, oC = .inr t → t.2 134 = m 134 ∧ ∃ v2, f_X12_task (a 1) (a 2) (mm_w t.2 133 0 0 t.1) = some (v2, m') ∧ f_X12_thrown m' = some 0 ∧ m' 133 0 0 = v2) : q_Row m m' a := by
  intro v r hat hv he
  have hk := k_X11_task 998 (by decide) _ _ m _ hC
  rcases oC with e9 | t
  · obtain ⟨v2, hM0, hx⟩ := hX e9 rfl
    obtain ⟨rfl, hT0⟩ := hx
    exact ⟨1, 6, by decide, by decide, q_head hat hv hop rfl (q_op25 hat hat (w_279_1 hk) (k_X12_task 999 (by decide) _ _ m _ hM0) (k_X12_thrown 999 (by decide) _ _ hT0) (fun h9 => absurd h9 (by decide)) he)⟩
  · obtain ⟨h134, v2, hM0, hT0, h133⟩ := hR t rfl
    exact ⟨0, 0, by decide, by decide, q_head hat hv hop rfl (by rw [mm_ad0]; exact mm_ad0 r ▸ q_op25 hat (q_fr (q_out h134) hat) (w_279 hk) (k_X12_task 999 (by decide) _ _ _ _ hM0) (k_X12_thrown 999 (by decide) _ _ hT0) (fun _ => h133) he)⟩
set_option maxRecDepth 100000 in
theorem r_op26 {m m' : mm_M} {a : Nat → Int32} (hop : a 0 &&& 63 = 26) {oC : Nat ⊕ (Int32 × mm_M)} (hC : f_X11_way (a 1) (a 2) m = some oC) (hX : ∀ e9, oC = .inl e9 → ∃ v2, f_X12_way (a 1) (a 2) m = some (v2, m') ∧ ((e9 = 1 ∧ f_X12_thrown m' = some 1))) (hR : ∀ t, oC = .inr t → t.2 134 = m 134 ∧ ∃ v2, f_X12_way (a 1) (a 2) (mm_w t.2 133 0 0 t.1) = some (v2, m') ∧ f_X12_thrown m' = some 0 ∧ m' 133 0 0 = v2) : q_Row m m' a := by
  intro v r hat hv he
  have hk := k_X11_way 998 (by decide) _ _ m _ hC
  rcases oC with e9 | t
  · obtain ⟨v2, hM0, hx⟩ := hX e9 rfl
    obtain ⟨rfl, hT0⟩ := hx
    exact ⟨1, 6, by decide, by decide, q_head hat hv hop rfl (q_op26 hat hat (w_280_1 hk) (k_X12_way 999 (by decide) _ _ m _ hM0) (k_X12_thrown 999 (by decide) _ _ hT0) (fun h9 => absurd h9 (by decide)) he)⟩
  · obtain ⟨h134, v2, hM0, hT0, h133⟩ := hR t rfl
    exact ⟨0, 0, by decide, by decide, q_head hat hv hop rfl (by rw [mm_ad0]; exact mm_ad0 r ▸ q_op26 hat (q_fr (q_out h134) hat) (w_280 hk) (k_X12_way 999 (by decide) _ _ _ _ hM0) (k_X12_thrown 999 (by decide) _ _ hT0) (fun _ => h133) he)⟩
set_option maxRecDepth 100000 in
theorem r_op27 {m m' : mm_M} {a : Nat → Int32} (hop : a 0 &&& 63 = 27) {oC : Nat ⊕ (Int32 × mm_M)} (hC : f_X11_pair (a 1) (a 2) m = some oC) (hX : ∀ e9, oC = .inl e9 → ∃ v2, f_X12_pair (a 1) (a 2) m = some (v2, m') ∧ ((e9 = 1 ∧ f_X12_thrown m' = some 1))) (hR : ∀ t, oC = .inr t → t.2 134 = m 134 ∧ ∃ v2, f_X12_pair (a 1) (a 2) (mm_w t.2 133 0 0 t.1) = some (v2, m') ∧ f_X12_thrown m' = some 0 ∧ m' 133 0 0 = v2) : q_Row m m' a := by
  intro v r hat hv he
  have hk := k_X11_pair 998 (by decide) _ _ m _ hC
  rcases oC with e9 | t
  · obtain ⟨v2, hM0, hx⟩ := hX e9 rfl
    obtain ⟨rfl, hT0⟩ := hx
    exact ⟨1, 6, by decide, by decide, q_head hat hv hop rfl (q_op27 hat hat (w_281_1 hk) (k_X12_pair 999 (by decide) _ _ m _ hM0) (k_X12_thrown 999 (by decide) _ _ hT0) (fun h9 => absurd h9 (by decide)) he)⟩
  · obtain ⟨h134, v2, hM0, hT0, h133⟩ := hR t rfl
    exact ⟨0, 0, by decide, by decide, q_head hat hv hop rfl (by rw [mm_ad0]; exact mm_ad0 r ▸ q_op27 hat (q_fr (q_out h134) hat) (w_281 hk) (k_X12_pair 999 (by decide) _ _ _ _ hM0) (k_X12_thrown 999 (by decide) _ _ hT0) (fun _ => h133) he)⟩
set_option maxRecDepth 100000 in
theorem r_op28 {m m' : mm_M} {a : Nat → Int32} (hop : a 0 &&& 63 = 28) {oC : Nat ⊕ (Int32)} (hC : f_X11_along (a 1) m = some oC) (hX : ∀ e9, oC = .inl e9 → ∃ v2, f_X12_along (a 1) m = some (v2, m') ∧ ((e9 = 1 ∧ f_X12_thrown m' = some 1))) (hR : ∀ t, oC = .inr t → m 134 = m 134 ∧ ∃ v2, f_X12_along (a 1) (mm_w m 133 0 0 t) = some (v2, m') ∧ f_X12_thrown m' = some 0 ∧ m' 133 0 0 = v2) : q_Row m m' a := by
  intro v r hat hv he
  have hk := k_X11_along 998 (by decide) _ m _ hC
  rcases oC with e9 | t
  · obtain ⟨v2, hM0, hx⟩ := hX e9 rfl
    obtain ⟨rfl, hT0⟩ := hx
    exact ⟨1, 6, by decide, by decide, q_head hat hv hop rfl (q_op28 hat hat (w_282_1 hk) (k_X12_along 999 (by decide) _ m _ hM0) (k_X12_thrown 999 (by decide) _ _ hT0) (fun h9 => absurd h9 (by decide)) he)⟩
  · obtain ⟨h134, v2, hM0, hT0, h133⟩ := hR t rfl
    exact ⟨0, 0, by decide, by decide, q_head hat hv hop rfl (by rw [mm_ad0]; exact mm_ad0 r ▸ q_op28 hat (q_fr (q_out h134) hat) (w_282 hk) (k_X12_along 999 (by decide) _ _ _ hM0) (k_X12_thrown 999 (by decide) _ _ hT0) (fun _ => h133) he)⟩
set_option maxRecDepth 100000 in
theorem r_op29 {m m' : mm_M} {a : Nat → Int32} (hop : a 0 &&& 63 = 29) {t : Int32 × mm_M} (hC : f_X11_deal  m = some t) (h134 : t.2 134 = m 134) (hM0 : f_X12_deal  t.2 = some (t.1, m')) : q_Row m m' a := by
  intro v r hat hv he
  exact ⟨0, 0, by decide, by decide, by rw [mm_ad0]; exact q_head hat hv hop rfl (q_op29 (a := a) (k_X11_deal 999 (by decide)  m _ hC) (k_X12_deal 999 (by decide)  t.2 (t.1, m') hM0) he)⟩
set_option maxRecDepth 100000 in
theorem r_op30 {m m' : mm_M} {a : Nat → Int32} (hop : a 0 &&& 63 = 30) {oC : Nat ⊕ (Int32)} (hC : f_X11_dealt (a 1) m = some oC) (hX : ∀ e9, oC = .inl e9 → ∃ v2, f_X12_dealt (a 1) m = some (v2, m') ∧ ((e9 = 1 ∧ f_X12_thrown m' = some 1))) (hR : ∀ t, oC = .inr t → m 134 = m 134 ∧ ∃ v2, f_X12_dealt (a 1) (mm_w m 133 0 0 t) = some (v2, m') ∧ f_X12_thrown m' = some 0 ∧ m' 133 0 0 = v2) : q_Row m m' a := by
  intro v r hat hv he
  have hk := k_X11_dealt 998 (by decide) _ m _ hC
  rcases oC with e9 | t
  · obtain ⟨v2, hM0, hx⟩ := hX e9 rfl
    obtain ⟨rfl, hT0⟩ := hx
    exact ⟨1, 6, by decide, by decide, q_head hat hv hop rfl (q_op30 hat hat (w_283_1 hk) (k_X12_dealt 999 (by decide) _ m _ hM0) (k_X12_thrown 999 (by decide) _ _ hT0) (fun h9 => absurd h9 (by decide)) he)⟩
  · obtain ⟨h134, v2, hM0, hT0, h133⟩ := hR t rfl
    exact ⟨0, 0, by decide, by decide, q_head hat hv hop rfl (by rw [mm_ad0]; exact mm_ad0 r ▸ q_op30 hat (q_fr (q_out h134) hat) (w_283 hk) (k_X12_dealt 999 (by decide) _ _ _ hM0) (k_X12_thrown 999 (by decide) _ _ hT0) (fun _ => h133) he)⟩
set_option maxRecDepth 100000 in
theorem r_op31 {m m' : mm_M} {a : Nat → Int32} (hop : a 0 &&& 63 = 31) {t : Int32} (hC : f_X11_lost (a 1) m = some t) (h134 : m 134 = m 134) (hM0 : f_X12_lost (a 1) m = some (t, m')) : q_Row m m' a := by
  intro v r hat hv he
  exact ⟨0, 0, by decide, by decide, by rw [mm_ad0]; exact q_head hat hv hop rfl (q_op31 (a := a) hat (q_fr h134 hat) (k_X11_lost 999 (by decide) _ m _ hC) (k_X12_lost 999 (by decide) _ m (t, m') hM0) he)⟩
set_option maxRecDepth 100000 in
theorem r_op32 {m m' : mm_M} {a : Nat → Int32} (hop : a 0 &&& 63 = 32) {oC : Nat ⊕ (Int32)} (hC : f_X11_worst (a 1) m = some oC) (hX : ∀ e9, oC = .inl e9 → ∃ v2, f_X12_worst (a 1) m = some (v2, m') ∧ ((e9 = 0 ∧ f_X12_thrown m' = some 1))) (hR : ∀ t, oC = .inr t → m 134 = m 134 ∧ ∃ v2, f_X12_worst (a 1) (mm_w m 133 0 0 t) = some (v2, m') ∧ f_X12_thrown m' = some 0 ∧ m' 133 0 0 = v2) : q_Row m m' a := by
  intro v r hat hv he
  have hk := k_X11_worst 998 (by decide) _ m _ hC
  rcases oC with e9 | t
  · obtain ⟨v2, hM0, hx⟩ := hX e9 rfl
    obtain ⟨rfl, hT0⟩ := hx
    exact ⟨1, 6, by decide, by decide, q_head hat hv hop rfl (q_op32 hat hat (w_284_0 hk) (k_X12_worst 999 (by decide) _ m _ hM0) (k_X12_thrown 999 (by decide) _ _ hT0) (fun h9 => absurd h9 (by decide)) he)⟩
  · obtain ⟨h134, v2, hM0, hT0, h133⟩ := hR t rfl
    exact ⟨0, 0, by decide, by decide, q_head hat hv hop rfl (by rw [mm_ad0]; exact mm_ad0 r ▸ q_op32 hat (q_fr (q_out h134) hat) (w_284 hk) (k_X12_worst 999 (by decide) _ _ _ hM0) (k_X12_thrown 999 (by decide) _ _ hT0) (fun _ => h133) he)⟩
set_option maxRecDepth 100000 in
theorem r_op33 {m m' : mm_M} {a : Nat → Int32} (hop : a 0 &&& 63 = 33) {t : Int32 × mm_M} (hC : f_X11_sheet (a 1) (a 2) m = some t) (h134 : t.2 134 = m 134) (hM0 : f_X12_sheet (a 1) (a 2) t.2 = some (t.1, m')) : q_Row m m' a := by
  intro v r hat hv he
  exact ⟨0, 0, by decide, by decide, by rw [mm_ad0]; exact q_head hat hv hop rfl (q_op33 (a := a) hat (q_fr h134 hat) (k_X11_sheet 999 (by decide) _ _ m _ hC) (k_X12_sheet 999 (by decide) _ _ t.2 (t.1, m') hM0) he)⟩
set_option maxRecDepth 100000 in
theorem r_op34 {m m' : mm_M} {a : Nat → Int32} (hop : a 0 &&& 63 = 34) {oC : Nat ⊕ (Int32 × mm_M)} (hC : f_X11_write (a 1) (a 2) (a 3) m = some oC) (hX : ∀ e9, oC = .inl e9 → ∃ v2, f_X12_write (a 1) (a 2) (a 3) m = some (v2, m') ∧ ((e9 = 1 ∧ f_X12_thrown m' = some 1))) (hR : ∀ t, oC = .inr t → t.2 134 = m 134 ∧ ∃ v2, f_X12_write (a 1) (a 2) (a 3) (mm_w t.2 133 0 0 t.1) = some (v2, m') ∧ f_X12_thrown m' = some 0 ∧ m' 133 0 0 = v2) : q_Row m m' a := by
  intro v r hat hv he
  have hk := k_X11_write 998 (by decide) _ _ _ m _ hC
  rcases oC with e9 | t
  · obtain ⟨v2, hM0, hx⟩ := hX e9 rfl
    obtain ⟨rfl, hT0⟩ := hx
    exact ⟨1, 6, by decide, by decide, q_head hat hv hop rfl (q_op34 hat hat (w_285_1 hk) (k_X12_write 999 (by decide) _ _ _ m _ hM0) (k_X12_thrown 999 (by decide) _ _ hT0) (fun h9 => absurd h9 (by decide)) he)⟩
  · obtain ⟨h134, v2, hM0, hT0, h133⟩ := hR t rfl
    exact ⟨0, 0, by decide, by decide, q_head hat hv hop rfl (by rw [mm_ad0]; exact mm_ad0 r ▸ q_op34 hat (q_fr (q_out h134) hat) (w_285 hk) (k_X12_write 999 (by decide) _ _ _ _ _ hM0) (k_X12_thrown 999 (by decide) _ _ hT0) (fun _ => h133) he)⟩
set_option maxRecDepth 100000 in
theorem r_op35 {m m' : mm_M} {a : Nat → Int32} (hop : a 0 &&& 63 = 35) {oC : Nat ⊕ (Int32 × mm_M)} (hC : f_X11_copy (a 1) (a 2) (a 3) (a 4) (a 5) m = some oC) (hX : ∀ e9, oC = .inl e9 → ∃ v2, f_X12_copy (a 1) (a 2) (a 3) (a 4) (a 5) m = some (v2, m') ∧ ((e9 = 1 ∧ f_X12_thrown m' = some 1))) (hR : ∀ t, oC = .inr t → t.2 134 = m 134 ∧ ∃ v2, f_X12_copy (a 1) (a 2) (a 3) (a 4) (a 5) (mm_w t.2 133 0 0 t.1) = some (v2, m') ∧ f_X12_thrown m' = some 0 ∧ m' 133 0 0 = v2) : q_Row m m' a := by
  intro v r hat hv he
  have hk := k_X11_copy 998 (by decide) _ _ _ _ _ m _ hC
  rcases oC with e9 | t
  · obtain ⟨v2, hM0, hx⟩ := hX e9 rfl
    obtain ⟨rfl, hT0⟩ := hx
    exact ⟨1, 6, by decide, by decide, q_head hat hv hop rfl (q_op35 hat hat (w_286_1 hk) (k_X12_copy 999 (by decide) _ _ _ _ _ m _ hM0) (k_X12_thrown 999 (by decide) _ _ hT0) (fun h9 => absurd h9 (by decide)) he)⟩
  · obtain ⟨h134, v2, hM0, hT0, h133⟩ := hR t rfl
    exact ⟨0, 0, by decide, by decide, q_head hat hv hop rfl (by rw [mm_ad0]; exact mm_ad0 r ▸ q_op35 hat (q_fr (q_out h134) hat) (w_286 hk) (k_X12_copy 999 (by decide) _ _ _ _ _ _ _ hM0) (k_X12_thrown 999 (by decide) _ _ hT0) (fun _ => h133) he)⟩
set_option maxRecDepth 100000 in
theorem r_op36 {m m' : mm_M} {a : Nat → Int32} (hop : a 0 &&& 63 = 36) {oC : Nat ⊕ (Int32 × mm_M)} (hC : f_X11_rowOf (a 1) (a 2) (a 3) m = some oC) (hX : ∀ e9, oC = .inl e9 → ∃ v2, f_X12_rowOf (a 1) (a 2) (a 3) m = some (v2, m') ∧ ((e9 = 1 ∧ f_X12_thrown m' = some 1) ∨ (e9 = 0 ∧ f_X12_thrown m' = some 2))) (hR : ∀ t, oC = .inr t → t.2 134 = m 134 ∧ ∃ v2, f_X12_rowOf (a 1) (a 2) (a 3) (mm_w t.2 133 0 0 t.1) = some (v2, m') ∧ f_X12_thrown m' = some 0 ∧ m' 133 0 0 = v2) : q_Row m m' a := by
  intro v r hat hv he
  have hk := k_X11_rowOf 998 (by decide) _ _ _ m _ hC
  rcases oC with e9 | t
  · obtain ⟨v2, hM0, hx⟩ := hX e9 rfl
    rcases hx with ⟨rfl, hT0⟩ | ⟨rfl, hT0⟩
    · exact ⟨1, 6, by decide, by decide, q_head hat hv hop rfl (q_op36 hat hat (w_287_1 hk) (k_X12_rowOf 999 (by decide) _ _ _ m _ hM0) (k_X12_thrown 999 (by decide) _ _ hT0) (fun h9 => absurd h9 (by decide)) he)⟩
    · exact ⟨1, 6, by decide, by decide, q_head hat hv hop rfl (q_op36 hat hat (w_287_0 hk) (k_X12_rowOf 999 (by decide) _ _ _ m _ hM0) (k_X12_thrown 999 (by decide) _ _ hT0) (fun h9 => absurd h9 (by decide)) he)⟩
  · obtain ⟨h134, v2, hM0, hT0, h133⟩ := hR t rfl
    exact ⟨0, 0, by decide, by decide, q_head hat hv hop rfl (by rw [mm_ad0]; exact mm_ad0 r ▸ q_op36 hat (q_fr (q_out h134) hat) (w_287 hk) (k_X12_rowOf 999 (by decide) _ _ _ _ _ hM0) (k_X12_thrown 999 (by decide) _ _ hT0) (fun _ => h133) he)⟩
set_option maxRecDepth 100000 in
theorem r_op37 {m m' : mm_M} {a : Nat → Int32} (hop : a 0 &&& 63 = 37) {oC : Nat ⊕ (Int32)} (hC : f_X11_count (a 1) m = some oC) (hX : ∀ e9, oC = .inl e9 → ∃ v2, f_X12_count (a 1) m = some (v2, m') ∧ ((e9 = 1 ∧ f_X12_thrown m' = some 1))) (hR : ∀ t, oC = .inr t → m 134 = m 134 ∧ ∃ v2, f_X12_count (a 1) (mm_w m 133 0 0 t) = some (v2, m') ∧ f_X12_thrown m' = some 0 ∧ m' 133 0 0 = v2) : q_Row m m' a := by
  intro v r hat hv he
  have hk := k_X11_count 998 (by decide) _ m _ hC
  rcases oC with e9 | t
  · obtain ⟨v2, hM0, hx⟩ := hX e9 rfl
    obtain ⟨rfl, hT0⟩ := hx
    exact ⟨1, 6, by decide, by decide, q_head hat hv hop rfl (q_op37 hat hat (w_288_1 hk) (k_X12_count 999 (by decide) _ m _ hM0) (k_X12_thrown 999 (by decide) _ _ hT0) (fun h9 => absurd h9 (by decide)) he)⟩
  · obtain ⟨h134, v2, hM0, hT0, h133⟩ := hR t rfl
    exact ⟨0, 0, by decide, by decide, q_head hat hv hop rfl (by rw [mm_ad0]; exact mm_ad0 r ▸ q_op37 hat (q_fr (q_out h134) hat) (w_288 hk) (k_X12_count 999 (by decide) _ _ _ hM0) (k_X12_thrown 999 (by decide) _ _ hT0) (fun _ => h133) he)⟩
