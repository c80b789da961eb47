/-! the law's rows out of the functions of the two programs, both at the row's own memory (by program: wip/gen/gen_law.py) -/
theorem q_nil {S : Nat → Bool} : fr_s S [] := fun _ h => by cases h
theorem q_same {m2 m : mm_M} (h : ∀ g, fr_SM g = true → m2 g = m g) : fr_mg fr_SM m2 m = m2 := by
  funext g
  cases hg : fr_SM g with
  | true => rw [fr_at hg]; exact (h g hg).symm
  | false => exact fr_no hg
/-- the class's calls leave the reference's memory -/
theorem q_agr {d k : Nat} {as : List mm_V} {m : mm_M} {r : mm_R} (h : mm_X d k as m r) (ha : fr_s fr_SC as) (g : Nat) (hg : fr_SM g = true) : r.2.1 g = m g := by
  by_cases h134 : 134 ≤ g
  · exact fn_X h134 h
  · refine fr_out fr_CC ha h ?_
    cases hc : fr_SC g with
    | false => rfl
    | true =>
      exfalso
      unfold fr_SC at hc
      unfold fr_SM at hg
      simp only [Bool.or_eq_true, Bool.and_eq_true, Nat.ble_eq, Nat.beq_eq] at hc hg
      omega
/-- the reference's calls leave the class's memory -/
theorem q_agrM {d k : Nat} {as : List mm_V} {m : mm_M} {r : mm_R} (h : mm_X d k as m r) (ha : fr_s fr_SM as) (g : Nat) (hg : fr_SC g = true) : r.2.1 g = m g := by
  by_cases h134 : 134 ≤ g
  · exact fn_X h134 h
  · refine fr_out fr_CM ha h ?_
    cases hc : fr_SM g with
    | false => rfl
    | true =>
      exfalso
      unfold fr_SC at hg
      unfold fr_SM at hc
      simp only [Bool.or_eq_true, Bool.and_eq_true, Nat.ble_eq, Nat.beq_eq] at hc hg
      omega
/-- the reference's call elsewhere -/
theorem q_mv {d k : Nat} {as : List mm_V} {m m2 mM : mm_M} {oo : mm_O} (hS : ∀ g, fr_SM g = true → m2 g = m g) (ha : fr_s fr_SM as) (h : mm_X d k as m (oo, mM, 0, 0)) : mm_X d k as m2 (oo, fr_mg fr_SM m2 mM, 0, 0) := by
  have h1 := fr_X (b := m2) fr_CM ha h
  rw [q_same hS] at h1
  exact h1
theorem q_mt {d k : Nat} {as : List mm_V} {m2 mM : mm_M} {oo : mm_O} (ha : fr_s fr_SM as) (h : mm_X d k as mM (oo, mM, 0, 0)) : mm_X d k as (fr_mg fr_SM m2 mM) (oo, fr_mg fr_SM m2 mM, 0, 0) := by
  have h1 := q_mv (m2 := fr_mg fr_SM m2 mM) (fun g hg => fr_at hg) ha h
  have e : fr_mg fr_SM (fr_mg fr_SM m2 mM) mM = fr_mg fr_SM m2 mM := q_same (fun g hg => fr_at hg)
  rw [e] at h1
  exact h1
theorem q_S133 : fr_SM 133 = false := by decide
theorem q_S134 : fr_SM 134 = false := by decide
theorem q_SM133 {g : Nat} (hg : fr_SM g = true) : 133 ≠ g := fun z => by rw [← z, q_S133] at hg; cases hg
theorem q_SC133 {g : Nat} (hg : fr_SC g = true) : 133 ≠ g := fun z => by rw [← z] at hg; exact absurd hg (by decide)
/-- the class's memory behind a call -/
def q_c2 (m : mm_M) (o : Nat ⊕ (Int32 × mm_M)) : mm_M := match o with
  | .inl _ => m
  | .inr t => t.2
def q_c1 (m : mm_M) (o : Nat ⊕ mm_M) : mm_M := match o with
  | .inl _ => m
  | .inr t => t
/-- what a row has come to: the reference's groups as mM has them, the class's as mC has them -/
def q_To (m : mm_M) (a : Nat → Int32) (mC mM : mm_M) : Prop := ∃ m', q_Row m m' a ∧ m' 134 = m 134 ∧ (∀ g, fr_SM g = true → m' g = mM g) ∧ ∀ g, fr_SC g = true → g < 134 → m' g = mC g
theorem q_toM {m mM : mm_M} {a : Nat → Int32} {d k : Nat} {as : List mm_V} {oo : mm_O} (hM : mm_X d k as m (oo, mM, 0, 0)) (ha : fr_s fr_SM as) (hr : q_Row m mM a) : q_To m a m mM := ⟨mM, hr, fn_X (g := 134) (by decide) hM, fun _ _ => rfl, fun g hg _ => q_agrM hM ha g hg⟩
theorem q_toC {m mC mC2 mM : mm_M} {a : Nat → Int32} (h134 : mC2 134 = m 134) (hC : ∀ g, fr_SC g = true → mC2 g = mC g) (hr : q_Row m (fr_mg fr_SM mC2 mM) a) : q_To m a mC mM := by
  refine ⟨fr_mg fr_SM mC2 mM, hr, (fr_no q_S134).trans h134, fun g hg => fr_at hg, fun g hg hl => ?_⟩
  rw [← hC g hg]
  refine fr_no ?_
  cases hc : fr_SM g with
  | false => rfl
  | true =>
    exfalso
    unfold fr_SC at hg
    unfold fr_SM at hc
    simp only [Bool.or_eq_true, Bool.and_eq_true, Nat.ble_eq, Nat.beq_eq] at hc hg
    omega
set_option maxRecDepth 100000 in
theorem t_op0 {m mM : mm_M} {a : Nat → Int32} (hop : a 0 &&& 63 = 0) {t : Int32 × mm_M} (hC : f_X11_feed (a 1) (a 2) (a 3) (a 4) (a 5) m = some t) (hM : f_X12_feed (a 1) (a 2) (a 3) (a 4) (a 5) m = some (t.1, mM)) : q_To m a t.2 mM := by
  have hk := k_X11_feed 999 (by decide) _ _ _ _ _ m _ hC
  have hm := k_X12_feed 999 (by decide) _ _ _ _ _ m (t.1, mM) hM
  have h134 : t.2 134 = m 134 := fn_X (g := 134) (by decide) hk
  refine q_toC (mC2 := t.2) h134 (fun g hg => rfl) (fun v r hat hv he => ?_)
  refine ⟨0, 0, by decide, by decide, ?_⟩
  rw [mm_ad0]
  exact q_head hat hv hop rfl (q_op0 (a := a) hat (q_fr h134 hat) hk (q_mv (fun g hg => q_agr hk (fr_s2 rfl (fr_s2 rfl (fr_s2 rfl (fr_s2 rfl (fr_s2 rfl (fr_s2 rfl q_nil)))))) g hg) (fr_s2 rfl (fr_s2 rfl (fr_s2 rfl (fr_s2 rfl (fr_s2 rfl (fr_s2 rfl q_nil)))))) hm) he)
set_option maxRecDepth 100000 in
theorem t_op1 {m mM : mm_M} {a : Nat → Int32} (hop : a 0 &&& 63 = 1) {oC : Nat ⊕ (Int32 × mm_M)} (hC : f_X11_thread (a 1) (a 2) m = some oC) {v2 : Int32} (hM : f_X12_thread (a 1) (a 2) m = some (v2, mM)) {th : Int32} (hT : f_X12_thrown mM = some th) (hX : ∀ e9, oC = .inl e9 → (e9 = 0 ∧ th = 1)) (hR : ∀ t, oC = .inr t → th = 0 ∧ v2 = t.1) : q_To m a (q_c2 m oC) mM := by
  have hk := k_X11_thread 998 (by decide) _ _ m _ hC
  have hm := k_X12_thread 999 (by decide) _ _ m _ hM
  have ht := k_X12_thrown 999 (by decide) _ _ hT
  rcases oC with e9 | t
  · have hx := hX e9 rfl
    refine q_toM hm (fr_s2 rfl (fr_s2 rfl (fr_s2 rfl q_nil))) (fun v r hat hv he => ?_)
    obtain ⟨rfl, rfl⟩ := hx
    exact ⟨1, 6, by decide, by decide, q_head hat hv hop rfl (q_op1 hat hat (w_256_0 hk) hm ht (fun h9 => absurd h9 (by decide)) he)⟩
  · obtain ⟨rfl, hv2⟩ := hR t rfl
    have hag : ∀ g, fr_SM g = true → (mm_w t.2 133 0 0 t.1) g = m g := fun g hg => (fn_w (q_SM133 hg)).trans (q_agr hk (fr_s2 rfl (fr_s2 rfl (fr_s2 rfl q_nil))) g hg)
    have h134 : (mm_w t.2 133 0 0 t.1) 134 = m 134 := (fn_w (by decide)).trans (fn_X (g := 134) (by decide) hk)
    refine q_toC (mC2 := (mm_w t.2 133 0 0 t.1)) h134 (fun g hg => fn_w (q_SC133 hg)) (fun v r hat hv he => ?_)
    exact ⟨0, 0, by decide, by decide, q_head hat hv hop rfl (q_op1 hat (q_fr h134 hat) (w_256 hk) (q_mv hag (fr_s2 rfl (fr_s2 rfl (fr_s2 rfl q_nil))) hm) (q_mt (fr_s2 rfl q_nil) ht) (fun _ => (congrFun (congrFun (fr_no q_S133) 0) 0).trans hv2.symm) he)⟩
set_option maxRecDepth 100000 in
theorem t_op2 {m mM : mm_M} {a : Nat → Int32} (hop : a 0 &&& 63 = 2) {oC : Nat ⊕ (Int32 × mm_M)} (hC : f_X11_law (a 1) m = some oC) {v2 : Int32} (hM : f_X12_law (a 1) m = some (v2, mM)) {th : Int32} (hT : f_X12_thrown mM = some th) (hX : ∀ e9, oC = .inl e9 → (e9 = 0 ∧ th = 1)) (hR : ∀ t, oC = .inr t → th = 0 ∧ v2 = t.1) : q_To m a (q_c2 m oC) mM := by
  have hk := k_X11_law 998 (by decide) _ m _ hC
  have hm := k_X12_law 999 (by decide) _ m _ hM
  have ht := k_X12_thrown 999 (by decide) _ _ hT
  rcases oC with e9 | t
  · have hx := hX e9 rfl
    refine q_toM hm (fr_s2 rfl (fr_s2 rfl q_nil)) (fun v r hat hv he => ?_)
    obtain ⟨rfl, rfl⟩ := hx
    exact ⟨1, 6, by decide, by decide, q_head hat hv hop rfl (q_op2 hat hat (w_257_0 hk) hm ht (fun h9 => absurd h9 (by decide)) he)⟩
  · obtain ⟨rfl, hv2⟩ := hR t rfl
    have hag : ∀ g, fr_SM g = true → (mm_w t.2 133 0 0 t.1) g = m g := fun g hg => (fn_w (q_SM133 hg)).trans (q_agr hk (fr_s2 rfl (fr_s2 rfl q_nil)) g hg)
    have h134 : (mm_w t.2 133 0 0 t.1) 134 = m 134 := (fn_w (by decide)).trans (fn_X (g := 134) (by decide) hk)
    refine q_toC (mC2 := (mm_w t.2 133 0 0 t.1)) h134 (fun g hg => fn_w (q_SC133 hg)) (fun v r hat hv he => ?_)
    exact ⟨0, 0, by decide, by decide, q_head hat hv hop rfl (q_op2 hat (q_fr h134 hat) (w_257 hk) (q_mv hag (fr_s2 rfl (fr_s2 rfl q_nil)) hm) (q_mt (fr_s2 rfl q_nil) ht) (fun _ => (congrFun (congrFun (fr_no q_S133) 0) 0).trans hv2.symm) he)⟩
set_option maxRecDepth 100000 in
theorem t_op3 {m mM : mm_M} {a : Nat → Int32} (hop : a 0 &&& 63 = 3) {t : Int32} (hC : f_X11_fault  m = some t) (hM : f_X12_fault  m = some (t, mM)) : q_To m a m mM := by
  have hk := k_X11_fault 999 (by decide)  m _ hC
  have hm := k_X12_fault 999 (by decide)  m (t, mM) hM
  have h134 : m 134 = m 134 := fn_X (g := 134) (by decide) hk
  refine q_toC (mC2 := m) h134 (fun g hg => rfl) (fun v r hat hv he => ?_)
  refine ⟨0, 0, by decide, by decide, ?_⟩
  rw [mm_ad0]
  exact q_head hat hv hop rfl (q_op3 (a := a) hk (q_mv (fun g hg => q_agr hk (fr_s2 rfl q_nil) g hg) (fr_s2 rfl q_nil) hm) he)
set_option maxRecDepth 100000 in
theorem t_op4 {m mM : mm_M} {a : Nat → Int32} (hop : a 0 &&& 63 = 4) {oC : Nat ⊕ (Int32)} (hC : f_X11_part (a 1) (a 2) (a 3) m = some oC) {v2 : Int32} (hM : f_X12_part (a 1) (a 2) (a 3) m = some (v2, mM)) {th : Int32} (hT : f_X12_thrown mM = some th) (hX : ∀ e9, oC = .inl e9 → (e9 = 1 ∧ th = 1)) (hR : ∀ t, oC = .inr t → th = 0 ∧ v2 = t) : q_To m a m mM := by
  have hk := k_X11_part 998 (by decide) _ _ _ m _ hC
  have hm := k_X12_part 999 (by decide) _ _ _ m _ hM
  have ht := k_X12_thrown 999 (by decide) _ _ hT
  rcases oC with e9 | t
  · have hx := hX e9 rfl
    refine q_toM hm (fr_s2 rfl (fr_s2 rfl (fr_s2 rfl (fr_s2 rfl q_nil)))) (fun v r hat hv he => ?_)
    obtain ⟨rfl, rfl⟩ := hx
    exact ⟨1, 6, by decide, by decide, q_head hat hv hop rfl (q_op4 hat hat (w_258_1 hk) hm ht (fun h9 => absurd h9 (by decide)) he)⟩
  · obtain ⟨rfl, hv2⟩ := hR t rfl
    have hag : ∀ g, fr_SM g = true → (mm_w m 133 0 0 t) g = m g := fun g hg => (fn_w (q_SM133 hg)).trans (q_agr hk (fr_s2 rfl (fr_s2 rfl (fr_s2 rfl (fr_s2 rfl q_nil)))) g hg)
    have h134 : (mm_w m 133 0 0 t) 134 = m 134 := (fn_w (by decide)).trans (fn_X (g := 134) (by decide) hk)
    refine q_toC (mC2 := (mm_w m 133 0 0 t)) h134 (fun g hg => fn_w (q_SC133 hg)) (fun v r hat hv he => ?_)
    exact ⟨0, 0, by decide, by decide, q_head hat hv hop rfl (q_op4 hat (q_fr h134 hat) (w_258 hk) (q_mv hag (fr_s2 rfl (fr_s2 rfl (fr_s2 rfl (fr_s2 rfl q_nil)))) hm) (q_mt (fr_s2 rfl q_nil) ht) (fun _ => (congrFun (congrFun (fr_no q_S133) 0) 0).trans hv2.symm) he)⟩
set_option maxRecDepth 100000 in
theorem t_op5 {m mM : mm_M} {a : Nat → Int32} (hop : a 0 &&& 63 = 5) {oC : Nat ⊕ (Int32 × mm_M)} (hC : f_X11_loss (a 1) (a 2) (a 3) (a 4) m = some oC) {v2 : Int32} (hM : f_X12_loss (a 1) (a 2) (a 3) (a 4) m = some (v2, mM)) {th : Int32} (hT : f_X12_thrown mM = some th) (hX : ∀ e9, oC = .inl e9 → (e9 = 1 ∧ th = 1) ∨ (e9 = 0 ∧ th = 2)) (hR : ∀ t, oC = .inr t → th = 0 ∧ v2 = t.1) : q_To m a (q_c2 m oC) mM := by
  have hk := k_X11_loss 998 (by decide) _ _ _ _ m _ hC
  have hm := k_X12_loss 999 (by decide) _ _ _ _ m _ hM
  have ht := k_X12_thrown 999 (by decide) _ _ hT
  rcases oC with e9 | t
  · have hx := hX e9 rfl
    refine q_toM hm (fr_s2 rfl (fr_s2 rfl (fr_s2 rfl (fr_s2 rfl (fr_s2 rfl q_nil))))) (fun v r hat hv he => ?_)
    rcases hx with ⟨rfl, rfl⟩ | ⟨rfl, rfl⟩
    · exact ⟨1, 6, by decide, by decide, q_head hat hv hop rfl (q_op5 hat hat (w_259_1 hk) hm ht (fun h9 => absurd h9 (by decide)) he)⟩
    · exact ⟨1, 6, by decide, by decide, q_head hat hv hop rfl (q_op5 hat hat (w_259_0 hk) hm ht (fun h9 => absurd h9 (by decide)) he)⟩
  · obtain ⟨rfl, hv2⟩ := hR t rfl
    have hag : ∀ g, fr_SM g = true → (mm_w t.2 133 0 0 t.1) g = m g := fun g hg => (fn_w (q_SM133 hg)).trans (q_agr hk (fr_s2 rfl (fr_s2 rfl (fr_s2 rfl (fr_s2 rfl (fr_s2 rfl q_nil))))) g hg)
    have h134 : (mm_w t.2 133 0 0 t.1) 134 = m 134 := (fn_w (by decide)).trans (fn_X (g := 134) (by decide) hk)
    refine q_toC (mC2 := (mm_w t.2 133 0 0 t.1)) h134 (fun g hg => fn_w (q_SC133 hg)) (fun v r hat hv he => ?_)
    exact ⟨0, 0, by decide, by decide, q_head hat hv hop rfl (q_op5 hat (q_fr h134 hat) (w_259 hk) (q_mv hag (fr_s2 rfl (fr_s2 rfl (fr_s2 rfl (fr_s2 rfl (fr_s2 rfl q_nil))))) hm) (q_mt (fr_s2 rfl q_nil) ht) (fun _ => (congrFun (congrFun (fr_no q_S133) 0) 0).trans hv2.symm) he)⟩
set_option maxRecDepth 100000 in
theorem t_op6 {m mM : mm_M} {a : Nat → Int32} (hop : a 0 &&& 63 = 6) {oC : Nat ⊕ (Int32 × mm_M)} (hC : f_X11_evenings (a 1) m = some oC) {v2 : Int32} (hM : f_X12_evenings (a 1) m = some (v2, mM)) {th : Int32} (hT : f_X12_thrown mM = some th) (hX : ∀ e9, oC = .inl e9 → (e9 = 0 ∧ th = 1)) (hR : ∀ t, oC = .inr t → th = 0 ∧ v2 = t.1) : q_To m a (q_c2 m oC) mM := by
  have hk := k_X11_evenings 998 (by decide) _ m _ hC
  have hm := k_X12_evenings 999 (by decide) _ m _ hM
  have ht := k_X12_thrown 999 (by decide) _ _ hT
  rcases oC with e9 | t
  · have hx := hX e9 rfl
    refine q_toM hm (fr_s2 rfl (fr_s2 rfl q_nil)) (fun v r hat hv he => ?_)
    obtain ⟨rfl, rfl⟩ := hx
    exact ⟨1, 6, by decide, by decide, q_head hat hv hop rfl (q_op6 hat hat (w_260_0 hk) hm ht (fun h9 => absurd h9 (by decide)) he)⟩
  · obtain ⟨rfl, hv2⟩ := hR t rfl
    have hag : ∀ g, fr_SM g = true → (mm_w t.2 133 0 0 t.1) g = m g := fun g hg => (fn_w (q_SM133 hg)).trans (q_agr hk (fr_s2 rfl (fr_s2 rfl q_nil)) g hg)
    have h134 : (mm_w t.2 133 0 0 t.1) 134 = m 134 := (fn_w (by decide)).trans (fn_X (g := 134) (by decide) hk)
    refine q_toC (mC2 := (mm_w t.2 133 0 0 t.1)) h134 (fun g hg => fn_w (q_SC133 hg)) (fun v r hat hv he => ?_)
    exact ⟨0, 0, by decide, by decide, q_head hat hv hop rfl (q_op6 hat (q_fr h134 hat) (w_260 hk) (q_mv hag (fr_s2 rfl (fr_s2 rfl q_nil)) hm) (q_mt (fr_s2 rfl q_nil) ht) (fun _ => (congrFun (congrFun (fr_no q_S133) 0) 0).trans hv2.symm) he)⟩
set_option maxRecDepth 100000 in
theorem t_op7 {m mM : mm_M} {a : Nat → Int32} (hop : a 0 &&& 63 = 7) {oC : Nat ⊕ (Int32 × mm_M)} (hC : f_X11_event (a 1) (a 2) (a 3) (a 4) (a 5) m = some oC) {v2 : Int32} (hM : f_X12_event (a 1) (a 2) (a 3) (a 4) (a 5) m = some (v2, mM)) {th : Int32} (hT : f_X12_thrown mM = some th) (hX : ∀ e9, oC = .inl e9 → (e9 = 1 ∧ th = 1)) (hR : ∀ t, oC = .inr t → th = 0 ∧ v2 = t.1) : q_To m a (q_c2 m oC) mM := by
  have hk := k_X11_event 998 (by decide) _ _ _ _ _ m _ hC
  have hm := k_X12_event 999 (by decide) _ _ _ _ _ m _ hM
  have ht := k_X12_thrown 999 (by decide) _ _ hT
  rcases oC with e9 | t
  · have hx := hX e9 rfl
    refine q_toM hm (fr_s2 rfl (fr_s2 rfl (fr_s2 rfl (fr_s2 rfl (fr_s2 rfl (fr_s2 rfl q_nil)))))) (fun v r hat hv he => ?_)
    obtain ⟨rfl, rfl⟩ := hx
    exact ⟨1, 6, by decide, by decide, q_head hat hv hop rfl (q_op7 hat hat (w_261_1 hk) hm ht (fun h9 => absurd h9 (by decide)) he)⟩
  · obtain ⟨rfl, hv2⟩ := hR t rfl
    have hag : ∀ g, fr_SM g = true → (mm_w t.2 133 0 0 t.1) g = m g := fun g hg => (fn_w (q_SM133 hg)).trans (q_agr hk (fr_s2 rfl (fr_s2 rfl (fr_s2 rfl (fr_s2 rfl (fr_s2 rfl (fr_s2 rfl q_nil)))))) g hg)
    have h134 : (mm_w t.2 133 0 0 t.1) 134 = m 134 := (fn_w (by decide)).trans (fn_X (g := 134) (by decide) hk)
    refine q_toC (mC2 := (mm_w t.2 133 0 0 t.1)) h134 (fun g hg => fn_w (q_SC133 hg)) (fun v r hat hv he => ?_)
    exact ⟨0, 0, by decide, by decide, q_head hat hv hop rfl (q_op7 hat (q_fr h134 hat) (w_261 hk) (q_mv hag (fr_s2 rfl (fr_s2 rfl (fr_s2 rfl (fr_s2 rfl (fr_s2 rfl (fr_s2 rfl q_nil)))))) hm) (q_mt (fr_s2 rfl q_nil) ht) (fun _ => (congrFun (congrFun (fr_no q_S133) 0) 0).trans hv2.symm) he)⟩
set_option maxRecDepth 100000 in
theorem t_op8 {m mM : mm_M} {a : Nat → Int32} (hop : a 0 &&& 63 = 8) {oC : Nat ⊕ (Int32 × mm_M)} (hC : f_X11_back (a 1) m = some oC) {v2 : Int32} (hM : f_X12_back (a 1) m = some (v2, mM)) {th : Int32} (hT : f_X12_thrown mM = some th) (hX : ∀ e9, oC = .inl e9 → (e9 = 1 ∧ th = 1)) (hR : ∀ t, oC = .inr t → th = 0 ∧ mm_bz v2 = mm_bz t.1) : q_To m a (q_c2 m oC) mM := by
  have hk := k_X11_back 998 (by decide) _ m _ hC
  have hm := k_X12_back 999 (by decide) _ m _ hM
  have ht := k_X12_thrown 999 (by decide) _ _ hT
  rcases oC with e9 | t
  · have hx := hX e9 rfl
    refine q_toM hm (fr_s2 rfl (fr_s2 rfl q_nil)) (fun v r hat hv he => ?_)
    obtain ⟨rfl, rfl⟩ := hx
    exact ⟨1, 6, by decide, by decide, q_head hat hv hop rfl (q_op8 hat hat (w_262_1 hk) hm ht (fun h9 => absurd h9 (by decide)) he)⟩
  · obtain ⟨rfl, hv2⟩ := hR t rfl
    have hag : ∀ g, fr_SM g = true → (mm_w t.2 133 0 0 (mm_bz t.1)) g = m g := fun g hg => (fn_w (q_SM133 hg)).trans (q_agr hk (fr_s2 rfl (fr_s2 rfl q_nil)) g hg)
    have h134 : (mm_w t.2 133 0 0 (mm_bz t.1)) 134 = m 134 := (fn_w (by decide)).trans (fn_X (g := 134) (by decide) hk)
    refine q_toC (mC2 := (mm_w t.2 133 0 0 (mm_bz t.1))) h134 (fun g hg => fn_w (q_SC133 hg)) (fun v r hat hv he => ?_)
    exact ⟨0, 0, by decide, by decide, q_head hat hv hop rfl (q_op8 hat (q_fr h134 hat) (w_262 hk) (q_mv hag (fr_s2 rfl (fr_s2 rfl q_nil)) hm) (q_mt (fr_s2 rfl q_nil) ht) (fun _ => (congrFun (congrFun (fr_no q_S133) 0) 0).trans hv2.symm) he)⟩
set_option maxRecDepth 100000 in
theorem t_op9 {m mM : mm_M} {a : Nat → Int32} (hop : a 0 &&& 63 = 9) {oC : Nat ⊕ (Int32 × mm_M)} (hC : f_X11_level (a 1) (a 2) (a 3) (a 4) (mm_bz (a 5)) (a 6) (a 7) m = some oC) {v2 : Int32} (hM : f_X12_level (a 1) (a 2) (a 3) (a 4) (mm_bz (a 5)) (a 6) (a 7) m = some (v2, mM)) {th : Int32} (hT : f_X12_thrown mM = some th) (hX : ∀ e9, oC = .inl e9 → (e9 = 1 ∧ th = 1) ∨ (e9 = 0 ∧ th = 2)) (hR : ∀ t, oC = .inr t → th = 0 ∧ v2 = t.1) : q_To m a (q_c2 m oC) mM := by
  have hk := k_X11_level 998 (by decide) _ _ _ _ _ _ _ m _ hC
  have hm := k_X12_level 999 (by decide) _ _ _ _ _ _ _ m _ hM
  have ht := k_X12_thrown 999 (by decide) _ _ hT
  rcases oC with e9 | t
  · have hx := hX e9 rfl
    refine q_toM hm (fr_s2 rfl (fr_s2 rfl (fr_s2 rfl (fr_s2 rfl (fr_s2 rfl (fr_s2 rfl (fr_s2 rfl (fr_s2 rfl q_nil)))))))) (fun v r hat hv he => ?_)
    rcases hx with ⟨rfl, rfl⟩ | ⟨rfl, rfl⟩
    · exact ⟨1, 6, by decide, by decide, q_head hat hv hop rfl (q_op9 hat hat (w_263_1 hk) hm ht (fun h9 => absurd h9 (by decide)) he)⟩
    · exact ⟨1, 6, by decide, by decide, q_head hat hv hop rfl (q_op9 hat hat (w_263_0 hk) hm ht (fun h9 => absurd h9 (by decide)) he)⟩
  · obtain ⟨rfl, hv2⟩ := hR t rfl
    have hag : ∀ g, fr_SM g = true → (mm_w t.2 133 0 0 t.1) g = m g := fun g hg => (fn_w (q_SM133 hg)).trans (q_agr hk (fr_s2 rfl (fr_s2 rfl (fr_s2 rfl (fr_s2 rfl (fr_s2 rfl (fr_s2 rfl (fr_s2 rfl (fr_s2 rfl q_nil)))))))) g hg)
    have h134 : (mm_w t.2 133 0 0 t.1) 134 = m 134 := (fn_w (by decide)).trans (fn_X (g := 134) (by decide) hk)
    refine q_toC (mC2 := (mm_w t.2 133 0 0 t.1)) h134 (fun g hg => fn_w (q_SC133 hg)) (fun v r hat hv he => ?_)
    exact ⟨0, 0, by decide, by decide, q_head hat hv hop rfl (q_op9 hat (q_fr h134 hat) (w_263 hk) (q_mv hag (fr_s2 rfl (fr_s2 rfl (fr_s2 rfl (fr_s2 rfl (fr_s2 rfl (fr_s2 rfl (fr_s2 rfl (fr_s2 rfl q_nil)))))))) hm) (q_mt (fr_s2 rfl q_nil) ht) (fun _ => (congrFun (congrFun (fr_no q_S133) 0) 0).trans hv2.symm) he)⟩
set_option maxRecDepth 100000 in
theorem t_op10 {m mM : mm_M} {a : Nat → Int32} (hop : a 0 &&& 63 = 10) {oC : Nat ⊕ (Int32 × mm_M)} (hC : f_X11_margin (a 1) (a 2) (a 3) (a 4) (a 5) (a 6) m = some oC) {v2 : Int32} (hM : f_X12_margin (a 1) (a 2) (a 3) (a 4) (a 5) (a 6) m = some (v2, mM)) {th : Int32} (hT : f_X12_thrown mM = some th) (hX : ∀ e9, oC = .inl e9 → (e9 = 1 ∧ th = 1) ∨ (e9 = 0 ∧ th = 2)) (hR : ∀ t, oC = .inr t → th = 0 ∧ v2 = t.1) : q_To m a (q_c2 m oC) mM := by
  have hk := k_X11_margin 998 (by decide) _ _ _ _ _ _ m _ hC
  have hm := k_X12_margin 999 (by decide) _ _ _ _ _ _ m _ hM
  have ht := k_X12_thrown 999 (by decide) _ _ hT
  rcases oC with e9 | t
  · have hx := hX e9 rfl
    refine q_toM hm (fr_s2 rfl (fr_s2 rfl (fr_s2 rfl (fr_s2 rfl (fr_s2 rfl (fr_s2 rfl (fr_s2 rfl q_nil))))))) (fun v r hat hv he => ?_)
    rcases hx with ⟨rfl, rfl⟩ | ⟨rfl, rfl⟩
    · exact ⟨1, 6, by decide, by decide, q_head hat hv hop rfl (q_op10 hat hat (w_264_1 hk) hm ht (fun h9 => absurd h9 (by decide)) he)⟩
    · exact ⟨1, 6, by decide, by decide, q_head hat hv hop rfl (q_op10 hat hat (w_264_0 hk) hm ht (fun h9 => absurd h9 (by decide)) he)⟩
  · obtain ⟨rfl, hv2⟩ := hR t rfl
    have hag : ∀ g, fr_SM g = true → (mm_w t.2 133 0 0 t.1) g = m g := fun g hg => (fn_w (q_SM133 hg)).trans (q_agr hk (fr_s2 rfl (fr_s2 rfl (fr_s2 rfl (fr_s2 rfl (fr_s2 rfl (fr_s2 rfl (fr_s2 rfl q_nil))))))) g hg)
    have h134 : (mm_w t.2 133 0 0 t.1) 134 = m 134 := (fn_w (by decide)).trans (fn_X (g := 134) (by decide) hk)
    refine q_toC (mC2 := (mm_w t.2 133 0 0 t.1)) h134 (fun g hg => fn_w (q_SC133 hg)) (fun v r hat hv he => ?_)
    exact ⟨0, 0, by decide, by decide, q_head hat hv hop rfl (q_op10 hat (q_fr h134 hat) (w_264 hk) (q_mv hag (fr_s2 rfl (fr_s2 rfl (fr_s2 rfl (fr_s2 rfl (fr_s2 rfl (fr_s2 rfl (fr_s2 rfl q_nil))))))) hm) (q_mt (fr_s2 rfl q_nil) ht) (fun _ => (congrFun (congrFun (fr_no q_S133) 0) 0).trans hv2.symm) he)⟩
set_option maxRecDepth 100000 in
theorem t_op11 {m mM : mm_M} {a : Nat → Int32} (hop : a 0 &&& 63 = 11) {oC : Nat ⊕ (Int32 × mm_M)} (hC : f_X11_tired (a 1) (a 2) (a 3) (a 4) m = some oC) {v2 : Int32} (hM : f_X12_tired (a 1) (a 2) (a 3) (a 4) m = some (v2, mM)) {th : Int32} (hT : f_X12_thrown mM = some th) (hX : ∀ e9, oC = .inl e9 → (e9 = 1 ∧ th = 1) ∨ (e9 = 0 ∧ th = 2)) (hR : ∀ t, oC = .inr t → th = 0 ∧ v2 = t.1) : q_To m a (q_c2 m oC) mM := by
  have hk := k_X11_tired 998 (by decide) _ _ _ _ m _ hC
  have hm := k_X12_tired 999 (by decide) _ _ _ _ m _ hM
  have ht := k_X12_thrown 999 (by decide) _ _ hT
  rcases oC with e9 | t
  · have hx := hX e9 rfl
    refine q_toM hm (fr_s2 rfl (fr_s2 rfl (fr_s2 rfl (fr_s2 rfl (fr_s2 rfl q_nil))))) (fun v r hat hv he => ?_)
    rcases hx with ⟨rfl, rfl⟩ | ⟨rfl, rfl⟩
    · exact ⟨1, 6, by decide, by decide, q_head hat hv hop rfl (q_op11 hat hat (w_265_1 hk) hm ht (fun h9 => absurd h9 (by decide)) he)⟩
    · exact ⟨1, 6, by decide, by decide, q_head hat hv hop rfl (q_op11 hat hat (w_265_0 hk) hm ht (fun h9 => absurd h9 (by decide)) he)⟩
  · obtain ⟨rfl, hv2⟩ := hR t rfl
    have hag : ∀ g, fr_SM g = true → (mm_w t.2 133 0 0 t.1) g = m g := fun g hg => (fn_w (q_SM133 hg)).trans (q_agr hk (fr_s2 rfl (fr_s2 rfl (fr_s2 rfl (fr_s2 rfl (fr_s2 rfl q_nil))))) g hg)
    have h134 : (mm_w t.2 133 0 0 t.1) 134 = m 134 := (fn_w (by decide)).trans (fn_X (g := 134) (by decide) hk)
    refine q_toC (mC2 := (mm_w t.2 133 0 0 t.1)) h134 (fun g hg => fn_w (q_SC133 hg)) (fun v r hat hv he => ?_)
    exact ⟨0, 0, by decide, by decide, q_head hat hv hop rfl (q_op11 hat (q_fr h134 hat) (w_265 hk) (q_mv hag (fr_s2 rfl (fr_s2 rfl (fr_s2 rfl (fr_s2 rfl (fr_s2 rfl q_nil))))) hm) (q_mt (fr_s2 rfl q_nil) ht) (fun _ => (congrFun (congrFun (fr_no q_S133) 0) 0).trans hv2.symm) he)⟩
set_option maxRecDepth 100000 in
theorem t_op12 {m mM : mm_M} {a : Nat → Int32} (hop : a 0 &&& 63 = 12) {oC : Nat ⊕ (Int32 × mm_M)} (hC : f_X11_dead (a 1) m = some oC) {v2 : Int32} (hM : f_X12_dead (a 1) m = some (v2, mM)) {th : Int32} (hT : f_X12_thrown mM = some th) (hX : ∀ e9, oC = .inl e9 → (e9 = 0 ∧ th = 1)) (hR : ∀ t, oC = .inr t → th = 0 ∧ v2 = t.1) : q_To m a (q_c2 m oC) mM := by
  have hk := k_X11_dead 998 (by decide) _ m _ hC
  have hm := k_X12_dead 999 (by decide) _ m _ hM
  have ht := k_X12_thrown 999 (by decide) _ _ hT
  rcases oC with e9 | t
  · have hx := hX e9 rfl
    refine q_toM hm (fr_s2 rfl (fr_s2 rfl q_nil)) (fun v r hat hv he => ?_)
    obtain ⟨rfl, rfl⟩ := hx
    exact ⟨1, 6, by decide, by decide, q_head hat hv hop rfl (q_op12 hat hat (w_266_0 hk) hm ht (fun h9 => absurd h9 (by decide)) he)⟩
  · obtain ⟨rfl, hv2⟩ := hR t rfl
    have hag : ∀ g, fr_SM g = true → (mm_w t.2 133 0 0 t.1) g = m g := fun g hg => (fn_w (q_SM133 hg)).trans (q_agr hk (fr_s2 rfl (fr_s2 rfl q_nil)) g hg)
    have h134 : (mm_w t.2 133 0 0 t.1) 134 = m 134 := (fn_w (by decide)).trans (fn_X (g := 134) (by decide) hk)
    refine q_toC (mC2 := (mm_w t.2 133 0 0 t.1)) h134 (fun g hg => fn_w (q_SC133 hg)) (fun v r hat hv he => ?_)
    exact ⟨0, 0, by decide, by decide, q_head hat hv hop rfl (q_op12 hat (q_fr h134 hat) (w_266 hk) (q_mv hag (fr_s2 rfl (fr_s2 rfl q_nil)) hm) (q_mt (fr_s2 rfl q_nil) ht) (fun _ => (congrFun (congrFun (fr_no q_S133) 0) 0).trans hv2.symm) he)⟩
set_option maxRecDepth 100000 in
theorem t_op13 {m mM : mm_M} {a : Nat → Int32} (hop : a 0 &&& 63 = 13) {oC : Nat ⊕ (Int32 × mm_M)} (hC : f_X11_echo (a 1) (a 2) (mm_bz (a 3)) (a 4) (a 5) m = some oC) {v2 : Int32} (hM : f_X12_echo (a 1) (a 2) (mm_bz (a 3)) (a 4) (a 5) m = some (v2, mM)) {th : Int32} (hT : f_X12_thrown mM = some th) (hX : ∀ e9, oC = .inl e9 → (e9 = 1 ∧ th = 1) ∨ (e9 = 0 ∧ th = 2)) (hR : ∀ t, oC = .inr t → th = 0 ∧ v2 = t.1) : q_To m a (q_c2 m oC) mM := by
  have hk := k_X11_echo 998 (by decide) _ _ _ _ _ m _ hC
  have hm := k_X12_echo 999 (by decide) _ _ _ _ _ m _ hM
  have ht := k_X12_thrown 999 (by decide) _ _ hT
  rcases oC with e9 | t
  · have hx := hX e9 rfl
    refine q_toM hm (fr_s2 rfl (fr_s2 rfl (fr_s2 rfl (fr_s2 rfl (fr_s2 rfl (fr_s2 rfl q_nil)))))) (fun v r hat hv he => ?_)
    rcases hx with ⟨rfl, rfl⟩ | ⟨rfl, rfl⟩
    · exact ⟨1, 6, by decide, by decide, q_head hat hv hop rfl (q_op13 hat hat (w_267_1 hk) hm ht (fun h9 => absurd h9 (by decide)) he)⟩
    · exact ⟨1, 6, by decide, by decide, q_head hat hv hop rfl (q_op13 hat hat (w_267_0 hk) hm ht (fun h9 => absurd h9 (by decide)) he)⟩
  · obtain ⟨rfl, hv2⟩ := hR t rfl
    have hag : ∀ g, fr_SM g = true → (mm_w t.2 133 0 0 t.1) g = m g := fun g hg => (fn_w (q_SM133 hg)).trans (q_agr hk (fr_s2 rfl (fr_s2 rfl (fr_s2 rfl (fr_s2 rfl (fr_s2 rfl (fr_s2 rfl q_nil)))))) g hg)
    have h134 : (mm_w t.2 133 0 0 t.1) 134 = m 134 := (fn_w (by decide)).trans (fn_X (g := 134) (by decide) hk)
    refine q_toC (mC2 := (mm_w t.2 133 0 0 t.1)) h134 (fun g hg => fn_w (q_SC133 hg)) (fun v r hat hv he => ?_)
    exact ⟨0, 0, by decide, by decide, q_head hat hv hop rfl (q_op13 hat (q_fr h134 hat) (w_267 hk) (q_mv hag (fr_s2 rfl (fr_s2 rfl (fr_s2 rfl (fr_s2 rfl (fr_s2 rfl (fr_s2 rfl q_nil)))))) hm) (q_mt (fr_s2 rfl q_nil) ht) (fun _ => (congrFun (congrFun (fr_no q_S133) 0) 0).trans hv2.symm) he)⟩
set_option maxRecDepth 100000 in
theorem t_op14 {m mM : mm_M} {a : Nat → Int32} (hop : a 0 &&& 63 = 14) {oC : Nat ⊕ (Int32)} (hC : f_X11_echoed (a 1) (a 2) m = some oC) {v2 : Int32} (hM : f_X12_echoed (a 1) (a 2) m = some (v2, mM)) {th : Int32} (hT : f_X12_thrown mM = some th) (hX : ∀ e9, oC = .inl e9 → (e9 = 1 ∧ th = 1)) (hR : ∀ t, oC = .inr t → th = 0 ∧ v2 = t) : q_To m a m mM := by
  have hk := k_X11_echoed 998 (by decide) _ _ m _ hC
  have hm := k_X12_echoed 999 (by decide) _ _ m _ hM
  have ht := k_X12_thrown 999 (by decide) _ _ hT
  rcases oC with e9 | t
  · have hx := hX e9 rfl
    refine q_toM hm (fr_s2 rfl (fr_s2 rfl (fr_s2 rfl q_nil))) (fun v r hat hv he => ?_)
    obtain ⟨rfl, rfl⟩ := hx
    exact ⟨1, 6, by decide, by decide, q_head hat hv hop rfl (q_op14 hat hat (w_268_1 hk) hm ht (fun h9 => absurd h9 (by decide)) he)⟩
  · obtain ⟨rfl, hv2⟩ := hR t rfl
    have hag : ∀ g, fr_SM g = true → (mm_w m 133 0 0 t) g = m g := fun g hg => (fn_w (q_SM133 hg)).trans (q_agr hk (fr_s2 rfl (fr_s2 rfl (fr_s2 rfl q_nil))) g hg)
    have h134 : (mm_w m 133 0 0 t) 134 = m 134 := (fn_w (by decide)).trans (fn_X (g := 134) (by decide) hk)
    refine q_toC (mC2 := (mm_w m 133 0 0 t)) h134 (fun g hg => fn_w (q_SC133 hg)) (fun v r hat hv he => ?_)
    exact ⟨0, 0, by decide, by decide, q_head hat hv hop rfl (q_op14 hat (q_fr h134 hat) (w_268 hk) (q_mv hag (fr_s2 rfl (fr_s2 rfl (fr_s2 rfl q_nil))) hm) (q_mt (fr_s2 rfl q_nil) ht) (fun _ => (congrFun (congrFun (fr_no q_S133) 0) 0).trans hv2.symm) he)⟩
set_option maxRecDepth 100000 in
theorem t_op15 {m mM : mm_M} {a : Nat → Int32} (hop : a 0 &&& 63 = 15) {oC : Nat ⊕ (mm_M)} (hC : f_X11_look (a 1) m = some oC) (hM : f_X12_look (a 1) m = some mM) {th : Int32} (hT : f_X12_thrown mM = some th) (hX : ∀ e9, oC = .inl e9 → (e9 = 1 ∧ th = 1)) (hR : ∀ t, oC = .inr t → th = 0) : q_To m a (q_c1 m oC) mM := by
  have hk := k_X11_look 998 (by decide) _ m _ hC
  have hm := k_X12_look 999 (by decide) _ m _ hM
  have ht := k_X12_thrown 999 (by decide) _ _ hT
  rcases oC with e9 | t
  · have hx := hX e9 rfl
    refine q_toM hm (fr_s2 rfl (fr_s2 rfl q_nil)) (fun v r hat hv he => ?_)
    obtain ⟨rfl, rfl⟩ := hx
    exact ⟨1, 6, by decide, by decide, q_head hat hv hop rfl (q_op15 hat hat (w_269_1 hk) hm ht he)⟩
  · obtain rfl := hR t rfl
    have hag : ∀ g, fr_SM g = true → t g = m g := fun g hg => q_agr hk (fr_s2 rfl (fr_s2 rfl q_nil)) g hg
    have h134 : t 134 = m 134 := fn_X (g := 134) (by decide) hk
    refine q_toC (mC2 := t) h134 (fun g hg => rfl) (fun v r hat hv he => ?_)
    exact ⟨0, 0, by decide, by decide, q_head hat hv hop rfl (q_op15 hat (q_fr h134 hat) (w_269 hk) (q_mv hag (fr_s2 rfl (fr_s2 rfl q_nil)) hm) (q_mt (fr_s2 rfl q_nil) ht) he)⟩
set_option maxRecDepth 100000 in
theorem t_op16 {m mM : mm_M} {a : Nat → Int32} (hop : a 0 &&& 63 = 16) {oC : Nat ⊕ (Int32 × mm_M)} (hC : f_X11_suspect (a 1) (a 2) m = some oC) {v2 : Int32} (hM : f_X12_suspect (a 1) (a 2) m = some (v2, mM)) {th : Int32} (hT : f_X12_thrown mM = some th) (hX : ∀ e9, oC = .inl e9 → (e9 = 1 ∧ th = 1)) (hR : ∀ t, oC = .inr t → th = 0 ∧ v2 = t.1) : q_To m a (q_c2 m oC) mM := by
  have hk := k_X11_suspect 998 (by decide) _ _ m _ hC
  have hm := k_X12_suspect 999 (by decide) _ _ m _ hM
  have ht := k_X12_thrown 999 (by decide) _ _ hT
  rcases oC with e9 | t
  · have hx := hX e9 rfl
    refine q_toM hm (fr_s2 rfl (fr_s2 rfl (fr_s2 rfl q_nil))) (fun v r hat hv he => ?_)
    obtain ⟨rfl, rfl⟩ := hx
    exact ⟨1, 6, by decide, by decide, q_head hat hv hop rfl (q_op16 hat hat (w_270_1 hk) hm ht (fun h9 => absurd h9 (by decide)) he)⟩
  · obtain ⟨rfl, hv2⟩ := hR t rfl
    have hag : ∀ g, fr_SM g = true → (mm_w t.2 133 0 0 t.1) g = m g := fun g hg => (fn_w (q_SM133 hg)).trans (q_agr hk (fr_s2 rfl (fr_s2 rfl (fr_s2 rfl q_nil))) g hg)
    have h134 : (mm_w t.2 133 0 0 t.1) 134 = m 134 := (fn_w (by decide)).trans (fn_X (g := 134) (by decide) hk)
    refine q_toC (mC2 := (mm_w t.2 133 0 0 t.1)) h134 (fun g hg => fn_w (q_SC133 hg)) (fun v r hat hv he => ?_)
    exact ⟨0, 0, by decide, by decide, q_head hat hv hop rfl (q_op16 hat (q_fr h134 hat) (w_270 hk) (q_mv hag (fr_s2 rfl (fr_s2 rfl (fr_s2 rfl q_nil))) hm) (q_mt (fr_s2 rfl q_nil) ht) (fun _ => (congrFun (congrFun (fr_no q_S133) 0) 0).trans hv2.symm) he)⟩
set_option maxRecDepth 100000 in
theorem t_op17 {m mM : mm_M} {a : Nat → Int32} (hop : a 0 &&& 63 = 17) {oC : Nat ⊕ (Int32 × mm_M)} (hC : f_X11_seen (mm_bz (a 1)) m = some oC) {v2 : Int32} (hM : f_X12_seen (mm_bz (a 1)) m = some (v2, mM)) {th : Int32} (hT : f_X12_thrown mM = some th) (hX : ∀ e9, oC = .inl e9 → (e9 = 1 ∧ th = 1)) (hR : ∀ t, oC = .inr t → th = 0 ∧ mm_bz v2 = mm_bz t.1) : q_To m a (q_c2 m oC) mM := by
  have hk := k_X11_seen 998 (by decide) _ m _ hC
  have hm := k_X12_seen 999 (by decide) _ m _ hM
  have ht := k_X12_thrown 999 (by decide) _ _ hT
  rcases oC with e9 | t
  · have hx := hX e9 rfl
    refine q_toM hm (fr_s2 rfl (fr_s2 rfl q_nil)) (fun v r hat hv he => ?_)
    obtain ⟨rfl, rfl⟩ := hx
    exact ⟨1, 6, by decide, by decide, q_head hat hv hop rfl (q_op17 hat hat (w_271_1 hk) hm ht (fun h9 => absurd h9 (by decide)) he)⟩
  · obtain ⟨rfl, hv2⟩ := hR t rfl
    have hag : ∀ g, fr_SM g = true → (mm_w t.2 133 0 0 (mm_bz t.1)) g = m g := fun g hg => (fn_w (q_SM133 hg)).trans (q_agr hk (fr_s2 rfl (fr_s2 rfl q_nil)) g hg)
    have h134 : (mm_w t.2 133 0 0 (mm_bz t.1)) 134 = m 134 := (fn_w (by decide)).trans (fn_X (g := 134) (by decide) hk)
    refine q_toC (mC2 := (mm_w t.2 133 0 0 (mm_bz t.1))) h134 (fun g hg => fn_w (q_SC133 hg)) (fun v r hat hv he => ?_)
    exact ⟨0, 0, by decide, by decide, q_head hat hv hop rfl (q_op17 hat (q_fr h134 hat) (w_271 hk) (q_mv hag (fr_s2 rfl (fr_s2 rfl q_nil)) hm) (q_mt (fr_s2 rfl q_nil) ht) (fun _ => (congrFun (congrFun (fr_no q_S133) 0) 0).trans hv2.symm) he)⟩
set_option maxRecDepth 100000 in
theorem t_op18 {m mM : mm_M} {a : Nat → Int32} (hop : a 0 &&& 63 = 18) {oC : Nat ⊕ (Int32 × mm_M)} (hC : f_X11_readBack (a 1) m = some oC) {v2 : Int32} (hM : f_X12_readBack (a 1) m = some (v2, mM)) {th : Int32} (hT : f_X12_thrown mM = some th) (hX : ∀ e9, oC = .inl e9 → (e9 = 1 ∧ th = 1)) (hR : ∀ t, oC = .inr t → th = 0 ∧ v2 = t.1) : q_To m a (q_c2 m oC) mM := by
  have hk := k_X11_readBack 998 (by decide) _ m _ hC
  have hm := k_X12_readBack 999 (by decide) _ m _ hM
  have ht := k_X12_thrown 999 (by decide) _ _ hT
  rcases oC with e9 | t
  · have hx := hX e9 rfl
    refine q_toM hm (fr_s2 rfl (fr_s2 rfl q_nil)) (fun v r hat hv he => ?_)
    obtain ⟨rfl, rfl⟩ := hx
    exact ⟨1, 6, by decide, by decide, q_head hat hv hop rfl (q_op18 hat hat (w_272_1 hk) hm ht (fun h9 => absurd h9 (by decide)) he)⟩
  · obtain ⟨rfl, hv2⟩ := hR t rfl
    have hag : ∀ g, fr_SM g = true → (mm_w t.2 133 0 0 t.1) g = m g := fun g hg => (fn_w (q_SM133 hg)).trans (q_agr hk (fr_s2 rfl (fr_s2 rfl q_nil)) g hg)
    have h134 : (mm_w t.2 133 0 0 t.1) 134 = m 134 := (fn_w (by decide)).trans (fn_X (g := 134) (by decide) hk)
    refine q_toC (mC2 := (mm_w t.2 133 0 0 t.1)) h134 (fun g hg => fn_w (q_SC133 hg)) (fun v r hat hv he => ?_)
    exact ⟨0, 0, by decide, by decide, q_head hat hv hop rfl (q_op18 hat (q_fr h134 hat) (w_272 hk) (q_mv hag (fr_s2 rfl (fr_s2 rfl q_nil)) hm) (q_mt (fr_s2 rfl q_nil) ht) (fun _ => (congrFun (congrFun (fr_no q_S133) 0) 0).trans hv2.symm) he)⟩
set_option maxRecDepth 100000 in
theorem t_op19 {m mM : mm_M} {a : Nat → Int32} (hop : a 0 &&& 63 = 19) {oC : Nat ⊕ (Int32)} (hC : f_X11_found (a 1) m = some oC) {v2 : Int32} (hM : f_X12_found (a 1) m = some (v2, mM)) {th : Int32} (hT : f_X12_thrown mM = some th) (hX : ∀ e9, oC = .inl e9 → (e9 = 1 ∧ th = 1)) (hR : ∀ t, oC = .inr t → th = 0 ∧ v2 = t) : q_To m a m mM := by
  have hk := k_X11_found 998 (by decide) _ m _ hC
  have hm := k_X12_found 999 (by decide) _ m _ hM
  have ht := k_X12_thrown 999 (by decide) _ _ hT
  rcases oC with e9 | t
  · have hx := hX e9 rfl
    refine q_toM hm (fr_s2 rfl (fr_s2 rfl q_nil)) (fun v r hat hv he => ?_)
    obtain ⟨rfl, rfl⟩ := hx
    exact ⟨1, 6, by decide, by decide, q_head hat hv hop rfl (q_op19 hat hat (w_273_1 hk) hm ht (fun h9 => absurd h9 (by decide)) he)⟩
  · obtain ⟨rfl, hv2⟩ := hR t rfl
    have hag : ∀ g, fr_SM g = true → (mm_w m 133 0 0 t) g = m g := fun g hg => (fn_w (q_SM133 hg)).trans (q_agr hk (fr_s2 rfl (fr_s2 rfl q_nil)) g hg)
    have h134 : (mm_w m 133 0 0 t) 134 = m 134 := (fn_w (by decide)).trans (fn_X (g := 134) (by decide) hk)
    refine q_toC (mC2 := (mm_w m 133 0 0 t)) h134 (fun g hg => fn_w (q_SC133 hg)) (fun v r hat hv he => ?_)
    exact ⟨0, 0, by decide, by decide, q_head hat hv hop rfl (q_op19 hat (q_fr h134 hat) (w_273 hk) (q_mv hag (fr_s2 rfl (fr_s2 rfl q_nil)) hm) (q_mt (fr_s2 rfl q_nil) ht) (fun _ => (congrFun (congrFun (fr_no q_S133) 0) 0).trans hv2.symm) he)⟩
set_option maxRecDepth 100000 in
theorem t_op20 {m mM : mm_M} {a : Nat → Int32} (hop : a 0 &&& 63 = 20) {oC : Nat ⊕ (Int32)} (hC : f_X11_dig (a 1) (a 2) (a 3) (a 4) m = some oC) {v2 : Int32} (hM : f_X12_dig (a 1) (a 2) (a 3) (a 4) m = some (v2, mM)) {th : Int32} (hT : f_X12_thrown mM = some th) (hX : ∀ e9, oC = .inl e9 → (e9 = 0 ∧ th = 1) ∨ (e9 = 1 ∧ th = 2)) (hR : ∀ t, oC = .inr t → th = 0 ∧ v2 = t) : q_To m a m mM := by
  have hk := k_X11_dig 998 (by decide) _ _ _ _ m _ hC
  have hm := k_X12_dig 999 (by decide) _ _ _ _ m _ hM
  have ht := k_X12_thrown 999 (by decide) _ _ hT
  rcases oC with e9 | t
  · have hx := hX e9 rfl
    refine q_toM hm (fr_s2 rfl (fr_s2 rfl (fr_s2 rfl (fr_s2 rfl (fr_s2 rfl q_nil))))) (fun v r hat hv he => ?_)
    rcases hx with ⟨rfl, rfl⟩ | ⟨rfl, rfl⟩
    · exact ⟨1, 6, by decide, by decide, q_head hat hv hop rfl (q_op20 hat hat (w_274_0 hk) hm ht (fun h9 => absurd h9 (by decide)) he)⟩
    · exact ⟨1, 6, by decide, by decide, q_head hat hv hop rfl (q_op20 hat hat (w_274_1 hk) hm ht (fun h9 => absurd h9 (by decide)) he)⟩
  · obtain ⟨rfl, hv2⟩ := hR t rfl
    have hag : ∀ g, fr_SM g = true → (mm_w m 133 0 0 t) g = m g := fun g hg => (fn_w (q_SM133 hg)).trans (q_agr hk (fr_s2 rfl (fr_s2 rfl (fr_s2 rfl (fr_s2 rfl (fr_s2 rfl q_nil))))) g hg)
    have h134 : (mm_w m 133 0 0 t) 134 = m 134 := (fn_w (by decide)).trans (fn_X (g := 134) (by decide) hk)
    refine q_toC (mC2 := (mm_w m 133 0 0 t)) h134 (fun g hg => fn_w (q_SC133 hg)) (fun v r hat hv he => ?_)
    exact ⟨0, 0, by decide, by decide, q_head hat hv hop rfl (q_op20 hat (q_fr h134 hat) (w_274 hk) (q_mv hag (fr_s2 rfl (fr_s2 rfl (fr_s2 rfl (fr_s2 rfl (fr_s2 rfl q_nil))))) hm) (q_mt (fr_s2 rfl q_nil) ht) (fun _ => (congrFun (congrFun (fr_no q_S133) 0) 0).trans hv2.symm) he)⟩
set_option maxRecDepth 100000 in
theorem t_op21 {m mM : mm_M} {a : Nat → Int32} (hop : a 0 &&& 63 = 21) {oC : Nat ⊕ (Int32)} (hC : f_X11_both (a 1) (a 2) (a 3) (a 4) (a 5) (a 6) m = some oC) {v2 : Int32} (hM : f_X12_both (a 1) (a 2) (a 3) (a 4) (a 5) (a 6) m = some (v2, mM)) {th : Int32} (hT : f_X12_thrown mM = some th) (hX : ∀ e9, oC = .inl e9 → (e9 = 0 ∧ th = 1) ∨ (e9 = 1 ∧ th = 2)) (hR : ∀ t, oC = .inr t → th = 0 ∧ v2 = t) : q_To m a m mM := by
  have hk := k_X11_both 998 (by decide) _ _ _ _ _ _ m _ hC
  have hm := k_X12_both 999 (by decide) _ _ _ _ _ _ m _ hM
  have ht := k_X12_thrown 999 (by decide) _ _ hT
  rcases oC with e9 | t
  · have hx := hX e9 rfl
    refine q_toM hm (fr_s2 rfl (fr_s2 rfl (fr_s2 rfl (fr_s2 rfl (fr_s2 rfl (fr_s2 rfl (fr_s2 rfl q_nil))))))) (fun v r hat hv he => ?_)
    rcases hx with ⟨rfl, rfl⟩ | ⟨rfl, rfl⟩
    · exact ⟨1, 6, by decide, by decide, q_head hat hv hop rfl (q_op21 hat hat (w_275_0 hk) hm ht (fun h9 => absurd h9 (by decide)) he)⟩
    · exact ⟨1, 6, by decide, by decide, q_head hat hv hop rfl (q_op21 hat hat (w_275_1 hk) hm ht (fun h9 => absurd h9 (by decide)) he)⟩
  · obtain ⟨rfl, hv2⟩ := hR t rfl
    have hag : ∀ g, fr_SM g = true → (mm_w m 133 0 0 t) g = m g := fun g hg => (fn_w (q_SM133 hg)).trans (q_agr hk (fr_s2 rfl (fr_s2 rfl (fr_s2 rfl (fr_s2 rfl (fr_s2 rfl (fr_s2 rfl (fr_s2 rfl q_nil))))))) g hg)
    have h134 : (mm_w m 133 0 0 t) 134 = m 134 := (fn_w (by decide)).trans (fn_X (g := 134) (by decide) hk)
    refine q_toC (mC2 := (mm_w m 133 0 0 t)) h134 (fun g hg => fn_w (q_SC133 hg)) (fun v r hat hv he => ?_)
    exact ⟨0, 0, by decide, by decide, q_head hat hv hop rfl (q_op21 hat (q_fr h134 hat) (w_275 hk) (q_mv hag (fr_s2 rfl (fr_s2 rfl (fr_s2 rfl (fr_s2 rfl (fr_s2 rfl (fr_s2 rfl (fr_s2 rfl q_nil))))))) hm) (q_mt (fr_s2 rfl q_nil) ht) (fun _ => (congrFun (congrFun (fr_no q_S133) 0) 0).trans hv2.symm) he)⟩
set_option maxRecDepth 100000 in
theorem t_op22 {m mM : mm_M} {a : Nat → Int32} (hop : a 0 &&& 63 = 22) {oC : Nat ⊕ (Int32 × mm_M)} (hC : f_X11_lamps (a 1) (a 2) (a 3) (a 4) (a 5) (a 6) (a 7) (a 8) m = some oC) {v2 : Int32} (hM : f_X12_lamps (a 1) (a 2) (a 3) (a 4) (a 5) (a 6) (a 7) (a 8) m = some (v2, mM)) {th : Int32} (hT : f_X12_thrown mM = some th) (hX : ∀ e9, oC = .inl e9 → (e9 = 1 ∧ th = 1) ∨ (e9 = 0 ∧ th = 2)) (hR : ∀ t, oC = .inr t → th = 0 ∧ v2 = t.1) : q_To m a (q_c2 m oC) mM := by
  have hk := k_X11_lamps 998 (by decide) _ _ _ _ _ _ _ _ m _ hC
  have hm := k_X12_lamps 999 (by decide) _ _ _ _ _ _ _ _ m _ hM
  have ht := k_X12_thrown 999 (by decide) _ _ hT
  rcases oC with e9 | t
  · have hx := hX e9 rfl
    refine q_toM hm (fr_s2 rfl (fr_s2 rfl (fr_s2 rfl (fr_s2 rfl (fr_s2 rfl (fr_s2 rfl (fr_s2 rfl (fr_s2 rfl (fr_s2 rfl q_nil))))))))) (fun v r hat hv he => ?_)
    rcases hx with ⟨rfl, rfl⟩ | ⟨rfl, rfl⟩
    · exact ⟨1, 6, by decide, by decide, q_head hat hv hop rfl (q_op22 hat hat (w_276_1 hk) hm ht (fun h9 => absurd h9 (by decide)) he)⟩
    · exact ⟨1, 6, by decide, by decide, q_head hat hv hop rfl (q_op22 hat hat (w_276_0 hk) hm ht (fun h9 => absurd h9 (by decide)) he)⟩
  · obtain ⟨rfl, hv2⟩ := hR t rfl
    have hag : ∀ g, fr_SM g = true → (mm_w t.2 133 0 0 t.1) g = m g := fun g hg => (fn_w (q_SM133 hg)).trans (q_agr hk (fr_s2 rfl (fr_s2 rfl (fr_s2 rfl (fr_s2 rfl (fr_s2 rfl (fr_s2 rfl (fr_s2 rfl (fr_s2 rfl (fr_s2 rfl q_nil))))))))) g hg)
    have h134 : (mm_w t.2 133 0 0 t.1) 134 = m 134 := (fn_w (by decide)).trans (fn_X (g := 134) (by decide) hk)
    refine q_toC (mC2 := (mm_w t.2 133 0 0 t.1)) h134 (fun g hg => fn_w (q_SC133 hg)) (fun v r hat hv he => ?_)
    exact ⟨0, 0, by decide, by decide, q_head hat hv hop rfl (q_op22 hat (q_fr h134 hat) (w_276 hk) (q_mv hag (fr_s2 rfl (fr_s2 rfl (fr_s2 rfl (fr_s2 rfl (fr_s2 rfl (fr_s2 rfl (fr_s2 rfl (fr_s2 rfl (fr_s2 rfl q_nil))))))))) hm) (q_mt (fr_s2 rfl q_nil) ht) (fun _ => (congrFun (congrFun (fr_no q_S133) 0) 0).trans hv2.symm) he)⟩
set_option maxRecDepth 100000 in
theorem t_op23 {m mM : mm_M} {a : Nat → Int32} (hop : a 0 &&& 63 = 23) {oC : Nat ⊕ (Int32)} (hC : f_X11_steps (a 1) m = some oC) {v2 : Int32} (hM : f_X12_steps (a 1) m = some (v2, mM)) {th : Int32} (hT : f_X12_thrown mM = some th) (hX : ∀ e9, oC = .inl e9 → (e9 = 1 ∧ th = 1)) (hR : ∀ t, oC = .inr t → th = 0 ∧ v2 = t) : q_To m a m mM := by
  have hk := k_X11_steps 998 (by decide) _ m _ hC
  have hm := k_X12_steps 999 (by decide) _ m _ hM
  have ht := k_X12_thrown 999 (by decide) _ _ hT
  rcases oC with e9 | t
  · have hx := hX e9 rfl
    refine q_toM hm (fr_s2 rfl (fr_s2 rfl q_nil)) (fun v r hat hv he => ?_)
    obtain ⟨rfl, rfl⟩ := hx
    exact ⟨1, 6, by decide, by decide, q_head hat hv hop rfl (q_op23 hat hat (w_277_1 hk) hm ht (fun h9 => absurd h9 (by decide)) he)⟩
  · obtain ⟨rfl, hv2⟩ := hR t rfl
    have hag : ∀ g, fr_SM g = true → (mm_w m 133 0 0 t) g = m g := fun g hg => (fn_w (q_SM133 hg)).trans (q_agr hk (fr_s2 rfl (fr_s2 rfl q_nil)) g hg)
    have h134 : (mm_w m 133 0 0 t) 134 = m 134 := (fn_w (by decide)).trans (fn_X (g := 134) (by decide) hk)
    refine q_toC (mC2 := (mm_w m 133 0 0 t)) h134 (fun g hg => fn_w (q_SC133 hg)) (fun v r hat hv he => ?_)
    exact ⟨0, 0, by decide, by decide, q_head hat hv hop rfl (q_op23 hat (q_fr h134 hat) (w_277 hk) (q_mv hag (fr_s2 rfl (fr_s2 rfl q_nil)) hm) (q_mt (fr_s2 rfl q_nil) ht) (fun _ => (congrFun (congrFun (fr_no q_S133) 0) 0).trans hv2.symm) he)⟩
set_option maxRecDepth 100000 in
theorem t_op24 {m mM : mm_M} {a : Nat → Int32} (hop : a 0 &&& 63 = 24) {oC : Nat ⊕ (Int32 × mm_M)} (hC : f_X11_cable (a 1) (a 2) (a 3) (a 4) m = some oC) {v2 : Int32} (hM : f_X12_cable (a 1) (a 2) (a 3) (a 4) m = some (v2, mM)) {th : Int32} (hT : f_X12_thrown mM = some th) (hX : ∀ e9, oC = .inl e9 → (e9 = 1 ∧ th = 1)) (hR : ∀ t, oC = .inr t → th = 0 ∧ v2 = t.1) : q_To m a (q_c2 m oC) mM := by
  have hk := k_X11_cable 998 (by decide) _ _ _ _ m _ hC
  have hm := k_X12_cable 999 (by decide) _ _ _ _ m _ hM
  have ht := k_X12_thrown 999 (by decide) _ _ hT
  rcases oC with e9 | t
  · have hx := hX e9 rfl
    refine q_toM hm (fr_s2 rfl (fr_s2 rfl (fr_s2 rfl (fr_s2 rfl (fr_s2 rfl q_nil))))) (fun v r hat hv he => ?_)
    obtain ⟨rfl, rfl⟩ := hx
    exact ⟨1, 6, by decide, by decide, q_head hat hv hop rfl (q_op24 hat hat (w_278_1 hk) hm ht (fun h9 => absurd h9 (by decide)) he)⟩
  · obtain ⟨rfl, hv2⟩ := hR t rfl
    have hag : ∀ g, fr_SM g = true → (mm_w t.2 133 0 0 t.1) g = m g := fun g hg => (fn_w (q_SM133 hg)).trans (q_agr hk (fr_s2 rfl (fr_s2 rfl (fr_s2 rfl (fr_s2 rfl (fr_s2 rfl q_nil))))) g hg)
    have h134 : (mm_w t.2 133 0 0 t.1) 134 = m 134 := (fn_w (by decide)).trans (fn_X (g := 134) (by decide) hk)
    refine q_toC (mC2 := (mm_w t.2 133 0 0 t.1)) h134 (fun g hg => fn_w (q_SC133 hg)) (fun v r hat hv he => ?_)
    exact ⟨0, 0, by decide, by decide, q_head hat hv hop rfl (q_op24 hat (q_fr h134 hat) (w_278 hk) (q_mv hag (fr_s2 rfl (fr_s2 rfl (fr_s2 rfl (fr_s2 rfl (fr_s2 rfl q_nil))))) hm) (q_mt (fr_s2 rfl q_nil) ht) (fun _ => (congrFun (congrFun (fr_no q_S133) 0) 0).trans hv2.symm) he)⟩
set_option maxRecDepth 100000 in
theorem t_op25 {m mM : mm_M} {a : Nat → Int32} (hop : a 0 &&& 63 = 25) {oC : Nat ⊕ (Int32 × mm_M)} (hC : f_X11_task (a 1) (a 2) m = some oC) {v2 : Int32} (hM : f_X12_task (a 1) (a 2) m = some (v2, mM)) {th : Int32} (hT : f_X12_thrown mM = some th) (hX : ∀ e9, oC = .inl e9 → (e9 = 1 ∧ th = 1)) (hR : ∀ t, oC = .inr t → th = 0 ∧ v2 = t.1) : q_To m a (q_c2 m oC) mM := by
  have hk := k_X11_task 998 (by decide) _ _ m _ hC
  have hm := k_X12_task 999 (by decide) _ _ m _ hM
  have ht := k_X12_thrown 999 (by decide) _ _ hT
  rcases oC with e9 | t
  · have hx := hX e9 rfl
    refine q_toM hm (fr_s2 rfl (fr_s2 rfl (fr_s2 rfl q_nil))) (fun v r hat hv he => ?_)
    obtain ⟨rfl, rfl⟩ := hx
    exact ⟨1, 6, by decide, by decide, q_head hat hv hop rfl (q_op25 hat hat (w_279_1 hk) hm ht (fun h9 => absurd h9 (by decide)) he)⟩
  · obtain ⟨rfl, hv2⟩ := hR t rfl
    have hag : ∀ g, fr_SM g = true → (mm_w t.2 133 0 0 t.1) g = m g := fun g hg => (fn_w (q_SM133 hg)).trans (q_agr hk (fr_s2 rfl (fr_s2 rfl (fr_s2 rfl q_nil))) g hg)
    have h134 : (mm_w t.2 133 0 0 t.1) 134 = m 134 := (fn_w (by decide)).trans (fn_X (g := 134) (by decide) hk)
    refine q_toC (mC2 := (mm_w t.2 133 0 0 t.1)) h134 (fun g hg => fn_w (q_SC133 hg)) (fun v r hat hv he => ?_)
    exact ⟨0, 0, by decide, by decide, q_head hat hv hop rfl (q_op25 hat (q_fr h134 hat) (w_279 hk) (q_mv hag (fr_s2 rfl (fr_s2 rfl (fr_s2 rfl q_nil))) hm) (q_mt (fr_s2 rfl q_nil) ht) (fun _ => (congrFun (congrFun (fr_no q_S133) 0) 0).trans hv2.symm) he)⟩
set_option maxRecDepth 100000 in
theorem t_op26 {m mM : mm_M} {a : Nat → Int32} (hop : a 0 &&& 63 = 26) {oC : Nat ⊕ (Int32 × mm_M)} (hC : f_X11_way (a 1) (a 2) m = some oC) {v2 : Int32} (hM : f_X12_way (a 1) (a 2) m = some (v2, mM)) {th : Int32} (hT : f_X12_thrown mM = some th) (hX : ∀ e9, oC = .inl e9 → (e9 = 1 ∧ th = 1)) (hR : ∀ t, oC = .inr t → th = 0 ∧ v2 = t.1) : q_To m a (q_c2 m oC) mM := by
  have hk := k_X11_way 998 (by decide) _ _ m _ hC
  have hm := k_X12_way 999 (by decide) _ _ m _ hM
  have ht := k_X12_thrown 999 (by decide) _ _ hT
  rcases oC with e9 | t
  · have hx := hX e9 rfl
    refine q_toM hm (fr_s2 rfl (fr_s2 rfl (fr_s2 rfl q_nil))) (fun v r hat hv he => ?_)
    obtain ⟨rfl, rfl⟩ := hx
    exact ⟨1, 6, by decide, by decide, q_head hat hv hop rfl (q_op26 hat hat (w_280_1 hk) hm ht (fun h9 => absurd h9 (by decide)) he)⟩
  · obtain ⟨rfl, hv2⟩ := hR t rfl
    have hag : ∀ g, fr_SM g = true → (mm_w t.2 133 0 0 t.1) g = m g := fun g hg => (fn_w (q_SM133 hg)).trans (q_agr hk (fr_s2 rfl (fr_s2 rfl (fr_s2 rfl q_nil))) g hg)
    have h134 : (mm_w t.2 133 0 0 t.1) 134 = m 134 := (fn_w (by decide)).trans (fn_X (g := 134) (by decide) hk)
    refine q_toC (mC2 := (mm_w t.2 133 0 0 t.1)) h134 (fun g hg => fn_w (q_SC133 hg)) (fun v r hat hv he => ?_)
    exact ⟨0, 0, by decide, by decide, q_head hat hv hop rfl (q_op26 hat (q_fr h134 hat) (w_280 hk) (q_mv hag (fr_s2 rfl (fr_s2 rfl (fr_s2 rfl q_nil))) hm) (q_mt (fr_s2 rfl q_nil) ht) (fun _ => (congrFun (congrFun (fr_no q_S133) 0) 0).trans hv2.symm) he)⟩
set_option maxRecDepth 100000 in
theorem t_op27 {m mM : mm_M} {a : Nat → Int32} (hop : a 0 &&& 63 = 27) {oC : Nat ⊕ (Int32 × mm_M)} (hC : f_X11_pair (a 1) (a 2) m = some oC) {v2 : Int32} (hM : f_X12_pair (a 1) (a 2) m = some (v2, mM)) {th : Int32} (hT : f_X12_thrown mM = some th) (hX : ∀ e9, oC = .inl e9 → (e9 = 1 ∧ th = 1)) (hR : ∀ t, oC = .inr t → th = 0 ∧ v2 = t.1) : q_To m a (q_c2 m oC) mM := by
  have hk := k_X11_pair 998 (by decide) _ _ m _ hC
  have hm := k_X12_pair 999 (by decide) _ _ m _ hM
  have ht := k_X12_thrown 999 (by decide) _ _ hT
  rcases oC with e9 | t
  · have hx := hX e9 rfl
    refine q_toM hm (fr_s2 rfl (fr_s2 rfl (fr_s2 rfl q_nil))) (fun v r hat hv he => ?_)
    obtain ⟨rfl, rfl⟩ := hx
    exact ⟨1, 6, by decide, by decide, q_head hat hv hop rfl (q_op27 hat hat (w_281_1 hk) hm ht (fun h9 => absurd h9 (by decide)) he)⟩
  · obtain ⟨rfl, hv2⟩ := hR t rfl
    have hag : ∀ g, fr_SM g = true → (mm_w t.2 133 0 0 t.1) g = m g := fun g hg => (fn_w (q_SM133 hg)).trans (q_agr hk (fr_s2 rfl (fr_s2 rfl (fr_s2 rfl q_nil))) g hg)
    have h134 : (mm_w t.2 133 0 0 t.1) 134 = m 134 := (fn_w (by decide)).trans (fn_X (g := 134) (by decide) hk)
    refine q_toC (mC2 := (mm_w t.2 133 0 0 t.1)) h134 (fun g hg => fn_w (q_SC133 hg)) (fun v r hat hv he => ?_)
    exact ⟨0, 0, by decide, by decide, q_head hat hv hop rfl (q_op27 hat (q_fr h134 hat) (w_281 hk) (q_mv hag (fr_s2 rfl (fr_s2 rfl (fr_s2 rfl q_nil))) hm) (q_mt (fr_s2 rfl q_nil) ht) (fun _ => (congrFun (congrFun (fr_no q_S133) 0) 0).trans hv2.symm) he)⟩
set_option maxRecDepth 100000 in
theorem t_op28 {m mM : mm_M} {a : Nat → Int32} (hop : a 0 &&& 63 = 28) {oC : Nat ⊕ (Int32)} (hC : f_X11_along (a 1) m = some oC) {v2 : Int32} (hM : f_X12_along (a 1) m = some (v2, mM)) {th : Int32} (hT : f_X12_thrown mM = some th) (hX : ∀ e9, oC = .inl e9 → (e9 = 1 ∧ th = 1)) (hR : ∀ t, oC = .inr t → th = 0 ∧ v2 = t) : q_To m a m mM := by
  have hk := k_X11_along 998 (by decide) _ m _ hC
  have hm := k_X12_along 999 (by decide) _ m _ hM
  have ht := k_X12_thrown 999 (by decide) _ _ hT
  rcases oC with e9 | t
  · have hx := hX e9 rfl
    refine q_toM hm (fr_s2 rfl (fr_s2 rfl q_nil)) (fun v r hat hv he => ?_)
    obtain ⟨rfl, rfl⟩ := hx
    exact ⟨1, 6, by decide, by decide, q_head hat hv hop rfl (q_op28 hat hat (w_282_1 hk) hm ht (fun h9 => absurd h9 (by decide)) he)⟩
  · obtain ⟨rfl, hv2⟩ := hR t rfl
    have hag : ∀ g, fr_SM g = true → (mm_w m 133 0 0 t) g = m g := fun g hg => (fn_w (q_SM133 hg)).trans (q_agr hk (fr_s2 rfl (fr_s2 rfl q_nil)) g hg)
    have h134 : (mm_w m 133 0 0 t) 134 = m 134 := (fn_w (by decide)).trans (fn_X (g := 134) (by decide) hk)
    refine q_toC (mC2 := (mm_w m 133 0 0 t)) h134 (fun g hg => fn_w (q_SC133 hg)) (fun v r hat hv he => ?_)
    exact ⟨0, 0, by decide, by decide, q_head hat hv hop rfl (q_op28 hat (q_fr h134 hat) (w_282 hk) (q_mv hag (fr_s2 rfl (fr_s2 rfl q_nil)) hm) (q_mt (fr_s2 rfl q_nil) ht) (fun _ => (congrFun (congrFun (fr_no q_S133) 0) 0).trans hv2.symm) he)⟩
set_option maxRecDepth 100000 in
theorem t_op29 {m mM : mm_M} {a : Nat → Int32} (hop : a 0 &&& 63 = 29) {t : Int32 × mm_M} (hC : f_X11_deal  m = some t) (hM : f_X12_deal  m = some (t.1, mM)) : q_To m a t.2 mM := by
  have hk := k_X11_deal 999 (by decide)  m _ hC
  have hm := k_X12_deal 999 (by decide)  m (t.1, mM) hM
  have h134 : t.2 134 = m 134 := fn_X (g := 134) (by decide) hk
  refine q_toC (mC2 := t.2) h134 (fun g hg => rfl) (fun v r hat hv he => ?_)
  refine ⟨0, 0, by decide, by decide, ?_⟩
  rw [mm_ad0]
  exact q_head hat hv hop rfl (q_op29 (a := a) hk (q_mv (fun g hg => q_agr hk (fr_s2 rfl q_nil) g hg) (fr_s2 rfl q_nil) hm) he)
set_option maxRecDepth 100000 in
theorem t_op30 {m mM : mm_M} {a : Nat → Int32} (hop : a 0 &&& 63 = 30) {oC : Nat ⊕ (Int32)} (hC : f_X11_dealt (a 1) m = some oC) {v2 : Int32} (hM : f_X12_dealt (a 1) m = some (v2, mM)) {th : Int32} (hT : f_X12_thrown mM = some th) (hX : ∀ e9, oC = .inl e9 → (e9 = 1 ∧ th = 1)) (hR : ∀ t, oC = .inr t → th = 0 ∧ v2 = t) : q_To m a m mM := by
  have hk := k_X11_dealt 998 (by decide) _ m _ hC
  have hm := k_X12_dealt 999 (by decide) _ m _ hM
  have ht := k_X12_thrown 999 (by decide) _ _ hT
  rcases oC with e9 | t
  · have hx := hX e9 rfl
    refine q_toM hm (fr_s2 rfl (fr_s2 rfl q_nil)) (fun v r hat hv he => ?_)
    obtain ⟨rfl, rfl⟩ := hx
    exact ⟨1, 6, by decide, by decide, q_head hat hv hop rfl (q_op30 hat hat (w_283_1 hk) hm ht (fun h9 => absurd h9 (by decide)) he)⟩
  · obtain ⟨rfl, hv2⟩ := hR t rfl
    have hag : ∀ g, fr_SM g = true → (mm_w m 133 0 0 t) g = m g := fun g hg => (fn_w (q_SM133 hg)).trans (q_agr hk (fr_s2 rfl (fr_s2 rfl q_nil)) g hg)
    have h134 : (mm_w m 133 0 0 t) 134 = m 134 := (fn_w (by decide)).trans (fn_X (g := 134) (by decide) hk)
    refine q_toC (mC2 := (mm_w m 133 0 0 t)) h134 (fun g hg => fn_w (q_SC133 hg)) (fun v r hat hv he => ?_)
    exact ⟨0, 0, by decide, by decide, q_head hat hv hop rfl (q_op30 hat (q_fr h134 hat) (w_283 hk) (q_mv hag (fr_s2 rfl (fr_s2 rfl q_nil)) hm) (q_mt (fr_s2 rfl q_nil) ht) (fun _ => (congrFun (congrFun (fr_no q_S133) 0) 0).trans hv2.symm) he)⟩
set_option maxRecDepth 100000 in
theorem t_op31 {m mM : mm_M} {a : Nat → Int32} (hop : a 0 &&& 63 = 31) {t : Int32} (hC : f_X11_lost (a 1) m = some t) (hM : f_X12_lost (a 1) m = some (t, mM)) : q_To m a m mM := by
  have hk := k_X11_lost 999 (by decide) _ m _ hC
  have hm := k_X12_lost 999 (by decide) _ m (t, mM) hM
  have h134 : m 134 = m 134 := fn_X (g := 134) (by decide) hk
  refine q_toC (mC2 := m) h134 (fun g hg => rfl) (fun v r hat hv he => ?_)
  refine ⟨0, 0, by decide, by decide, ?_⟩
  rw [mm_ad0]
  exact q_head hat hv hop rfl (q_op31 (a := a) hat (q_fr h134 hat) hk (q_mv (fun g hg => q_agr hk (fr_s2 rfl (fr_s2 rfl q_nil)) g hg) (fr_s2 rfl (fr_s2 rfl q_nil)) hm) he)
set_option maxRecDepth 100000 in
theorem t_op32 {m mM : mm_M} {a : Nat → Int32} (hop : a 0 &&& 63 = 32) {oC : Nat ⊕ (Int32)} (hC : f_X11_worst (a 1) m = some oC) {v2 : Int32} (hM : f_X12_worst (a 1) m = some (v2, mM)) {th : Int32} (hT : f_X12_thrown mM = some th) (hX : ∀ e9, oC = .inl e9 → (e9 = 0 ∧ th = 1)) (hR : ∀ t, oC = .inr t → th = 0 ∧ v2 = t) : q_To m a m mM := by
  have hk := k_X11_worst 998 (by decide) _ m _ hC
  have hm := k_X12_worst 999 (by decide) _ m _ hM
  have ht := k_X12_thrown 999 (by decide) _ _ hT
  rcases oC with e9 | t
  · have hx := hX e9 rfl
    refine q_toM hm (fr_s2 rfl (fr_s2 rfl q_nil)) (fun v r hat hv he => ?_)
    obtain ⟨rfl, rfl⟩ := hx
    exact ⟨1, 6, by decide, by decide, q_head hat hv hop rfl (q_op32 hat hat (w_284_0 hk) hm ht (fun h9 => absurd h9 (by decide)) he)⟩
  · obtain ⟨rfl, hv2⟩ := hR t rfl
    have hag : ∀ g, fr_SM g = true → (mm_w m 133 0 0 t) g = m g := fun g hg => (fn_w (q_SM133 hg)).trans (q_agr hk (fr_s2 rfl (fr_s2 rfl q_nil)) g hg)
    have h134 : (mm_w m 133 0 0 t) 134 = m 134 := (fn_w (by decide)).trans (fn_X (g := 134) (by decide) hk)
    refine q_toC (mC2 := (mm_w m 133 0 0 t)) h134 (fun g hg => fn_w (q_SC133 hg)) (fun v r hat hv he => ?_)
    exact ⟨0, 0, by decide, by decide, q_head hat hv hop rfl (q_op32 hat (q_fr h134 hat) (w_284 hk) (q_mv hag (fr_s2 rfl (fr_s2 rfl q_nil)) hm) (q_mt (fr_s2 rfl q_nil) ht) (fun _ => (congrFun (congrFun (fr_no q_S133) 0) 0).trans hv2.symm) he)⟩
set_option maxRecDepth 100000 in
theorem t_op33 {m mM : mm_M} {a : Nat → Int32} (hop : a 0 &&& 63 = 33) {t : Int32 × mm_M} (hC : f_X11_sheet (a 1) (a 2) m = some t) (hM : f_X12_sheet (a 1) (a 2) m = some (t.1, mM)) : q_To m a t.2 mM := by
  have hk := k_X11_sheet 999 (by decide) _ _ m _ hC
  have hm := k_X12_sheet 999 (by decide) _ _ m (t.1, mM) hM
  have h134 : t.2 134 = m 134 := fn_X (g := 134) (by decide) hk
  refine q_toC (mC2 := t.2) h134 (fun g hg => rfl) (fun v r hat hv he => ?_)
  refine ⟨0, 0, by decide, by decide, ?_⟩
  rw [mm_ad0]
  exact q_head hat hv hop rfl (q_op33 (a := a) hat (q_fr h134 hat) hk (q_mv (fun g hg => q_agr hk (fr_s2 rfl (fr_s2 rfl (fr_s2 rfl q_nil))) g hg) (fr_s2 rfl (fr_s2 rfl (fr_s2 rfl q_nil))) hm) he)
set_option maxRecDepth 100000 in
theorem t_op34 {m mM : mm_M} {a : Nat → Int32} (hop : a 0 &&& 63 = 34) {oC : Nat ⊕ (Int32 × mm_M)} (hC : f_X11_write (a 1) (a 2) (a 3) m = some oC) {v2 : Int32} (hM : f_X12_write (a 1) (a 2) (a 3) m = some (v2, mM)) {th : Int32} (hT : f_X12_thrown mM = some th) (hX : ∀ e9, oC = .inl e9 → (e9 = 1 ∧ th = 1)) (hR : ∀ t, oC = .inr t → th = 0 ∧ v2 = t.1) : q_To m a (q_c2 m oC) mM := by
  have hk := k_X11_write 998 (by decide) _ _ _ m _ hC
  have hm := k_X12_write 999 (by decide) _ _ _ m _ hM
  have ht := k_X12_thrown 999 (by decide) _ _ hT
  rcases oC with e9 | t
  · have hx := hX e9 rfl
    refine q_toM hm (fr_s2 rfl (fr_s2 rfl (fr_s2 rfl (fr_s2 rfl q_nil)))) (fun v r hat hv he => ?_)
    obtain ⟨rfl, rfl⟩ := hx
    exact ⟨1, 6, by decide, by decide, q_head hat hv hop rfl (q_op34 hat hat (w_285_1 hk) hm ht (fun h9 => absurd h9 (by decide)) he)⟩
  · obtain ⟨rfl, hv2⟩ := hR t rfl
    have hag : ∀ g, fr_SM g = true → (mm_w t.2 133 0 0 t.1) g = m g := fun g hg => (fn_w (q_SM133 hg)).trans (q_agr hk (fr_s2 rfl (fr_s2 rfl (fr_s2 rfl (fr_s2 rfl q_nil)))) g hg)
    have h134 : (mm_w t.2 133 0 0 t.1) 134 = m 134 := (fn_w (by decide)).trans (fn_X (g := 134) (by decide) hk)
    refine q_toC (mC2 := (mm_w t.2 133 0 0 t.1)) h134 (fun g hg => fn_w (q_SC133 hg)) (fun v r hat hv he => ?_)
    exact ⟨0, 0, by decide, by decide, q_head hat hv hop rfl (q_op34 hat (q_fr h134 hat) (w_285 hk) (q_mv hag (fr_s2 rfl (fr_s2 rfl (fr_s2 rfl (fr_s2 rfl q_nil)))) hm) (q_mt (fr_s2 rfl q_nil) ht) (fun _ => (congrFun (congrFun (fr_no q_S133) 0) 0).trans hv2.symm) he)⟩
set_option maxRecDepth 100000 in
theorem t_op35 {m mM : mm_M} {a : Nat → Int32} (hop : a 0 &&& 63 = 35) {oC : Nat ⊕ (Int32 × mm_M)} (hC : f_X11_copy (a 1) (a 2) (a 3) (a 4) (a 5) m = some oC) {v2 : Int32} (hM : f_X12_copy (a 1) (a 2) (a 3) (a 4) (a 5) m = some (v2, mM)) {th : Int32} (hT : f_X12_thrown mM = some th) (hX : ∀ e9, oC = .inl e9 → (e9 = 1 ∧ th = 1)) (hR : ∀ t, oC = .inr t → th = 0 ∧ v2 = t.1) : q_To m a (q_c2 m oC) mM := by
  have hk := k_X11_copy 998 (by decide) _ _ _ _ _ m _ hC
  have hm := k_X12_copy 999 (by decide) _ _ _ _ _ m _ hM
  have ht := k_X12_thrown 999 (by decide) _ _ hT
  rcases oC with e9 | t
  · have hx := hX e9 rfl
    refine q_toM hm (fr_s2 rfl (fr_s2 rfl (fr_s2 rfl (fr_s2 rfl (fr_s2 rfl (fr_s2 rfl q_nil)))))) (fun v r hat hv he => ?_)
    obtain ⟨rfl, rfl⟩ := hx
    exact ⟨1, 6, by decide, by decide, q_head hat hv hop rfl (q_op35 hat hat (w_286_1 hk) hm ht (fun h9 => absurd h9 (by decide)) he)⟩
  · obtain ⟨rfl, hv2⟩ := hR t rfl
    have hag : ∀ g, fr_SM g = true → (mm_w t.2 133 0 0 t.1) g = m g := fun g hg => (fn_w (q_SM133 hg)).trans (q_agr hk (fr_s2 rfl (fr_s2 rfl (fr_s2 rfl (fr_s2 rfl (fr_s2 rfl (fr_s2 rfl q_nil)))))) g hg)
    have h134 : (mm_w t.2 133 0 0 t.1) 134 = m 134 := (fn_w (by decide)).trans (fn_X (g := 134) (by decide) hk)
    refine q_toC (mC2 := (mm_w t.2 133 0 0 t.1)) h134 (fun g hg => fn_w (q_SC133 hg)) (fun v r hat hv he => ?_)
    exact ⟨0, 0, by decide, by decide, q_head hat hv hop rfl (q_op35 hat (q_fr h134 hat) (w_286 hk) (q_mv hag (fr_s2 rfl (fr_s2 rfl (fr_s2 rfl (fr_s2 rfl (fr_s2 rfl (fr_s2 rfl q_nil)))))) hm) (q_mt (fr_s2 rfl q_nil) ht) (fun _ => (congrFun (congrFun (fr_no q_S133) 0) 0).trans hv2.symm) he)⟩
set_option maxRecDepth 100000 in
theorem t_op36 {m mM : mm_M} {a : Nat → Int32} (hop : a 0 &&& 63 = 36) {oC : Nat ⊕ (Int32 × mm_M)} (hC : f_X11_rowOf (a 1) (a 2) (a 3) m = some oC) {v2 : Int32} (hM : f_X12_rowOf (a 1) (a 2) (a 3) m = some (v2, mM)) {th : Int32} (hT : f_X12_thrown mM = some th) (hX : ∀ e9, oC = .inl e9 → (e9 = 1 ∧ th = 1) ∨ (e9 = 0 ∧ th = 2)) (hR : ∀ t, oC = .inr t → th = 0 ∧ v2 = t.1) : q_To m a (q_c2 m oC) mM := by
  have hk := k_X11_rowOf 998 (by decide) _ _ _ m _ hC
  have hm := k_X12_rowOf 999 (by decide) _ _ _ m _ hM
  have ht := k_X12_thrown 999 (by decide) _ _ hT
  rcases oC with e9 | t
  · have hx := hX e9 rfl
    refine q_toM hm (fr_s2 rfl (fr_s2 rfl (fr_s2 rfl (fr_s2 rfl q_nil)))) (fun v r hat hv he => ?_)
    rcases hx with ⟨rfl, rfl⟩ | ⟨rfl, rfl⟩
    · exact ⟨1, 6, by decide, by decide, q_head hat hv hop rfl (q_op36 hat hat (w_287_1 hk) hm ht (fun h9 => absurd h9 (by decide)) he)⟩
    · exact ⟨1, 6, by decide, by decide, q_head hat hv hop rfl (q_op36 hat hat (w_287_0 hk) hm ht (fun h9 => absurd h9 (by decide)) he)⟩
  · obtain ⟨rfl, hv2⟩ := hR t rfl
    have hag : ∀ g, fr_SM g = true → (mm_w t.2 133 0 0 t.1) g = m g := fun g hg => (fn_w (q_SM133 hg)).trans (q_agr hk (fr_s2 rfl (fr_s2 rfl (fr_s2 rfl (fr_s2 rfl q_nil)))) g hg)
    have h134 : (mm_w t.2 133 0 0 t.1) 134 = m 134 := (fn_w (by decide)).trans (fn_X (g := 134) (by decide) hk)
    refine q_toC (mC2 := (mm_w t.2 133 0 0 t.1)) h134 (fun g hg => fn_w (q_SC133 hg)) (fun v r hat hv he => ?_)
    exact ⟨0, 0, by decide, by decide, q_head hat hv hop rfl (q_op36 hat (q_fr h134 hat) (w_287 hk) (q_mv hag (fr_s2 rfl (fr_s2 rfl (fr_s2 rfl (fr_s2 rfl q_nil)))) hm) (q_mt (fr_s2 rfl q_nil) ht) (fun _ => (congrFun (congrFun (fr_no q_S133) 0) 0).trans hv2.symm) he)⟩
set_option maxRecDepth 100000 in
theorem t_op37 {m mM : mm_M} {a : Nat → Int32} (hop : a 0 &&& 63 = 37) {oC : Nat ⊕ (Int32)} (hC : f_X11_count (a 1) m = some oC) {v2 : Int32} (hM : f_X12_count (a 1) m = some (v2, mM)) {th : Int32} (hT : f_X12_thrown mM = some th) (hX : ∀ e9, oC = .inl e9 → (e9 = 1 ∧ th = 1)) (hR : ∀ t, oC = .inr t → th = 0 ∧ v2 = t) : q_To m a m mM := by
  have hk := k_X11_count 998 (by decide) _ m _ hC
  have hm := k_X12_count 999 (by decide) _ m _ hM
  have ht := k_X12_thrown 999 (by decide) _ _ hT
  rcases oC with e9 | t
  · have hx := hX e9 rfl
    refine q_toM hm (fr_s2 rfl (fr_s2 rfl q_nil)) (fun v r hat hv he => ?_)
    obtain ⟨rfl, rfl⟩ := hx
    exact ⟨1, 6, by decide, by decide, q_head hat hv hop rfl (q_op37 hat hat (w_288_1 hk) hm ht (fun h9 => absurd h9 (by decide)) he)⟩
  · obtain ⟨rfl, hv2⟩ := hR t rfl
    have hag : ∀ g, fr_SM g = true → (mm_w m 133 0 0 t) g = m g := fun g hg => (fn_w (q_SM133 hg)).trans (q_agr hk (fr_s2 rfl (fr_s2 rfl q_nil)) g hg)
    have h134 : (mm_w m 133 0 0 t) 134 = m 134 := (fn_w (by decide)).trans (fn_X (g := 134) (by decide) hk)
    refine q_toC (mC2 := (mm_w m 133 0 0 t)) h134 (fun g hg => fn_w (q_SC133 hg)) (fun v r hat hv he => ?_)
    exact ⟨0, 0, by decide, by decide, q_head hat hv hop rfl (q_op37 hat (q_fr h134 hat) (w_288 hk) (q_mv hag (fr_s2 rfl (fr_s2 rfl q_nil)) hm) (q_mt (fr_s2 rfl q_nil) ht) (fun _ => (congrFun (congrFun (fr_no q_S133) 0) 0).trans hv2.symm) he)⟩
