/-! calls -/
/-- what a call of the method x by the entry idx of the class o rests on -/
def mm_mlk (o idx x : Nat) (stat : Bool) (n : Nat) : Prop :=
  (Cond.methodLink (mm_rn o) idx (mm_yn x) ∈ lw_tbl ∨ ∃ host, Cond.methodLinkNest (mm_rn o) idx (mm_yn x) host ∈ lw_tbl) ∧ Cond.initialized (mm_yn x).cls ∈ lw_tbl ∧
  (Cond.code (mm_yn x) (mm_by x) (mm_mt x).2.2.2 (mm_rt x) ∈ lw_tbl ∧ (mm_mt x).2.2.2 ≤ 40) ∧
  (if stat = true then Cond.static (mm_yn x) ∈ lw_tbl else Cond.instanceMethod (mm_yn x) ∈ lw_tbl ∧ Cond.selects (mm_yn x).cls (mm_yn x) (mm_yn x) ∈ lw_tbl) ∧
  ((mm_yn x).cls ≠ "java/lang/invoke/MethodHandle" ∧ (mm_yn x).cls ≠ "java/lang/invoke/VarHandle" ∧ (parseMethodDescriptor (mm_yn x).desc).map (fun d => d.parameters.length) = some n)
theorem mm_room0 {d k1 n1 a : Nat} (h : d + 17 ≤ a) : (mm_rm d k1 n1).frames + 1 ≤ a := by
  show d + 16 + 1 ≤ a
  omega
set_option maxRecDepth 100000 in
theorem mm_room1 {d z k1 n1 a : Nat} (h : z ≤ 40) (hR : 64 * d + 464 ≤ a) : 8 + (z + 11) + (mm_rm d k1 n1).locals ≤ a := by
  show 8 + (z + 11) + (64 * d + 400) ≤ a
  omega
section MML
variable {p : Program} {l : Launch} {e : Env} {R : Room} {s : State} {mid : MethodId} {args : Array Value} {below : List Frame} {meth : Method} {c : Code} {Q : State → Prop} {D : va_G} {ad : Nat → Nat → Nat} {cy : Nat → ClassId} {A : Nat → Prop} {xs : Nat → Int32} {xn : Nat} {mc ms : Nat} {k : Nat} {kk nn : Nat} {pc : Nat} {L : List (Option mm_V)} {st : List mm_V} {m : mm_M}
theorem mm_sr_app : ∀ (a b : List mm_V) (stk : List Value), mm_sr ad (a ++ b) stk → ∃ x y, stk = x ++ y ∧ mm_sr ad a x ∧ mm_sr ad b y
  | [], b, stk, h => ⟨[], stk, rfl, trivial, h⟩
  | v :: a, b, stk, h => by
    match stk, h with
    | w :: stk, ⟨h1, h2⟩ =>
      obtain ⟨x, y, rfl, h3, h4⟩ := mm_sr_app a b stk h2
      exact ⟨w :: x, y, rfl, ⟨h1, h3⟩, h4⟩
theorem mm_sr_mk : ∀ (a b : List mm_V) (x y : List Value), mm_sr ad a x → mm_sr ad b y → mm_sr ad (a ++ b) (x ++ y)
  | [], b, x, y, h1, h2 => by
    match x, h1 with
    | [], _ => exact h2
  | v :: a, b, x, y, h1, h2 => by
    match x, h1 with
    | w :: x, ⟨h3, h4⟩ => exact ⟨h3, mm_sr_mk a b x y h4 h2⟩
theorem mm_sr_rev : ∀ (a : List mm_V) (x : List Value), mm_sr ad a x → mm_sr ad a.reverse x.reverse
  | [], x, h => by
    match x, h with
    | [], _ => exact trivial
  | v :: a, x, h => by
    match x, h with
    | w :: x, ⟨h1, h2⟩ =>
      rw [List.reverse_cons, List.reverse_cons]
      exact mm_sr_mk _ _ _ _ (mm_sr_rev a x h2) ⟨h1, trivial⟩
theorem mm_sr_len : ∀ (a : List mm_V) (x : List Value), mm_sr ad a x → x.length = a.length
  | [], x, h => by
    match x, h with
    | [], _ => rfl
  | v :: a, x, h => by
    match x, h with
    | w :: x, ⟨h1, h2⟩ => rw [List.length_cons, List.length_cons, mm_sr_len a x h2]
theorem mm_sr_wd : ∀ (a : List mm_V) (x : List Value), mm_sr ad a x → (x.map fun v => v.category).sum = mm_wd a
  | [], x, h => by
    match x, h with
    | [], _ => rfl
  | v :: a, x, h => by
    match x, h with
    | w :: x, ⟨h1, h2⟩ =>
      rw [List.map_cons, List.sum_cons, mm_sr_wd a x h2]
      rcases v with z | z | z
      · cases h1; show 1 + mm_wd a = mm_wd a + 1; omega
      · cases h1; show 2 + mm_wd a = mm_wd a + 2; omega
      · have h3 : w.category = 1 := mm_cat h1 trivial
        rw [h3]; show 1 + mm_wd a = mm_wd a + 1; omega
theorem mm_tsG_in {w : Cond} (h : w ∈ lw_tbl) (hg : goodWord w = true) : w ∈ mm_tsG := List.mem_filter.mpr ⟨h, hg⟩
theorem mm_wk_good {x : Nat} (h : Cond.code (mm_yn x) (mm_by x) (mm_mt x).2.2.2 (mm_rt x) ∈ lw_tbl) : GoodIn mm_tsG (mm_wk x) := by
  intro w hw
  rcases List.mem_cons.mp hw with rfl | hw
  · exact ⟨mm_tsG_in h rfl, good_of_word rfl⟩
  · exact ⟨hw, good_of_word (List.mem_filter.mp hw).2⟩
/-- a static call runs -/
theorem s_runS {H : Heap} {locs : List Loc} {cells slots d x idx k1 n1 n : Nat} {ls : Array Slot} {as : List mm_V} {As rest : List Value} {o : mm_O} {m1 : mm_M} (C : mm_Cx p s mid args meth c D ad cy A xs xn k) (hA : ∀ q, mm_Aw ad H.size q → A q) (hd : decode (mm_by k) pc = .ok (.invokestatic idx, 3)) (hlk : mm_mlk (mm_mt k).1 idx x true n) (hcon : mm_Con l D ad cy xs xn d x as m o m1 k1 n1)
    (hP : va_P D vwCl (mm_ws ad cy m) H) (hcv : mm_cv m) (hsv : mm_sv xs xn m) (hS : va_S A s.heap H locs) (hl : ls.size = (mm_mt k).2.2.2) (hs : mm_sr ad as As) (hn : as.length = n) (hrest : (rest.map fun v => v.category).sum ≤ 8) (hRf : d + 17 ≤ R.frames) (hRl : 64 * d + 464 ≤ R.locals) (hRc : cells + k1 ≤ R.cells) (hRs : slots + n1 ≤ R.slots) :
    vx_Run p l e R s mid args below meth c H locs cells slots k1 n1 (F0 mid pc ls (As.reverse ++ rest)) rest (mm_Qc D ad cy xs xn o m1 (mm_Aw ad H.size) As.toArray) (mm_XC D ad cy xs xn o m1 (mm_Aw ad H.size)) (mm_Aw ad H.size) := by
  obtain ⟨hlink, hini, ⟨hcode, hm40⟩, hst, hdd⟩ := hlk
  rw [if_pos rfl] at hst
  have hts := mm_tsG_ok C
  have hpre : PreS s H (mm_Pc D ad cy xs xn as m H.size) As := ⟨mm_blind D ad cy xs xn as m H.size, mm_pre (sz := H.size) C hA hP hcv hsv hS hs⟩
  have hR9 : (mm_rm d k1 n1).frames + 1 ≤ R.frames ∧ 8 + ((mm_mt x).2.2.2 + 11) + (mm_rm d k1 n1).locals ≤ R.locals := by
    exact ⟨mm_room0 hRf, mm_room1 hm40 hRl⟩
  have hlen : As.length = n := (mm_sr_len _ _ hs).trans hn
  rcases hlink with hlink | ⟨host, hlink⟩
  · exact vx_runS (nL := (mm_mt k).2.2.2) (Ts := mm_tsG) ⟨C.1, C.2.1, C.2.2.1, C.2.2.2.1, hts⟩ (hcon H.size) ⟨callB_of (Ts := mm_tsG) n hts (mm_wk_good hcode) rfl rfl rfl (C.2.2.2.2.1 _ hini rfl) (C.2.2.2.2.1 _ hlink rfl) hdd hR9, C.2.2.2.2.1 _ hst rfl⟩ hpre rfl hlen hl rfl (lv_room hrest) hd ⟨hRc, hRs⟩
  · exact vx_runSN (nL := (mm_mt k).2.2.2) (Ts := mm_tsG) ⟨C.1, C.2.1, C.2.2.1, C.2.2.2.1, hts⟩ (hcon H.size) ⟨va_cnB (Ts := mm_tsG) (host := host) n hts (mm_wk_good hcode) rfl rfl rfl (C.2.2.2.2.2.1.2.1 _ hlink rfl) (C.2.2.2.2.1 _ hini rfl) hdd hR9, C.2.2.2.2.1 _ hst rfl, trivial⟩ hpre rfl hlen hl rfl (lv_room hrest) hd ⟨hRc, hRs⟩
/-- a call of an object's method runs -/
theorem s_runV {H : Heap} {locs : List Loc} {cells slots d x idx k1 n1 n g i ci : Nat} {ls : Array Slot} {as : List mm_V} {As rest : List Value} {fs : List mm_F} {o : mm_O} {m1 : mm_M} {cq : vw_C} (C : mm_Cx p s mid args meth c D ad cy A xs xn k) (hA : ∀ q, mm_Aw ad H.size q → A q) (hd : decode (mm_by k) pc = .ok (.invokevirtual idx, 3)) (hlk : mm_mlk (mm_mt k).1 idx x false n) (hcon : mm_Con l D ad cy xs xn d x (.inr (.inr (some (g, i))) :: as) m o m1 k1 n1)
    (hob : mm_ob g = some (ci, fs)) (hmem : (g, i) ∈ mm_cl) (hcl : vwCl[ci]? = some cq) (hcn : cq.1 = (mm_yn x).cls)
    (hP : va_P D vwCl (mm_ws ad cy m) H) (hcv : mm_cv m) (hsv : mm_sv xs xn m) (hS : va_S A s.heap H locs) (hl : ls.size = (mm_mt k).2.2.2) (hs : mm_sr ad as As) (hn : as.length = n) (hrest : (rest.map fun v => v.category).sum ≤ 8) (hRf : d + 17 ≤ R.frames) (hRl : 64 * d + 464 ≤ R.locals) (hRc : cells + k1 ≤ R.cells) (hRs : slots + n1 ≤ R.slots) :
    vx_Run p l e R s mid args below meth c H locs cells slots k1 n1 (F0 mid pc ls (As.reverse ++ .ref (ad g i) :: rest)) rest (mm_Qc D ad cy xs xn o m1 (mm_Aw ad H.size) (Value.ref (ad g i) :: As).toArray) (mm_XC D ad cy xs xn o m1 (mm_Aw ad H.size)) (mm_Aw ad H.size) := by
  obtain ⟨hlink, hini, ⟨hcode, hm40⟩, hst, hdd⟩ := hlk
  rw [if_neg (by decide)] at hst
  have hts := mm_tsG_ok C
  obtain ⟨q, hq⟩ := mm_pos hmem
  have hat := mm_ws_at (ad := ad) (cy := cy) (m := m) hq
  have hen : mm_ent ad cy m g i = .inr (ci, mm_fl ad m g i 0 fs) := by unfold mm_ent; rw [hob]
  rw [hen] at hat
  have hrc := va_recv C.2.2.2.2.2.1.1 hP hcl hat
  rw [hcn] at hrc
  have hpre : PreV s H (mm_yn x).cls (ad g i) (mm_Pc D ad cy xs xn (.inr (.inr (some (g, i))) :: as) m H.size) As := ⟨mm_blind D ad cy xs xn _ m H.size, hrc, mm_pre (sz := H.size) (As := .ref (ad g i) :: As) C hA hP hcv hsv hS ⟨mm_vr_mk hmem, hs⟩⟩
  have hR9 : (mm_rm d k1 n1).frames + 1 ≤ R.frames ∧ 8 + ((mm_mt x).2.2.2 + 11) + (mm_rm d k1 n1).locals ≤ R.locals := by
    exact ⟨mm_room0 hRf, mm_room1 hm40 hRl⟩
  have hlen : As.length = n := (mm_sr_len _ _ hs).trans hn
  rcases hlink with hlink | ⟨host, hlink⟩
  · exact vx_runV (nL := (mm_mt k).2.2.2) (Ts := mm_tsG) ⟨C.1, C.2.1, C.2.2.1, C.2.2.2.1, hts⟩ (hcon H.size) ⟨callB_of (Ts := mm_tsG) n hts (mm_wk_good hcode) rfl rfl rfl (C.2.2.2.2.1 _ hini rfl) (C.2.2.2.2.1 _ hlink rfl) hdd hR9, C.2.2.2.2.1 _ hst.1 rfl, C.2.2.2.2.1 _ hst.2 rfl⟩ hpre rfl hlen hl rfl (lv_room hrest) hd ⟨hRc, hRs⟩
  · exact vx_runVN (nL := (mm_mt k).2.2.2) (Ts := mm_tsG) ⟨C.1, C.2.1, C.2.2.1, C.2.2.2.1, hts⟩ (hcon H.size) ⟨va_cnB (Ts := mm_tsG) (host := host) n hts (mm_wk_good hcode) rfl rfl rfl (C.2.2.2.2.2.1.2.1 _ hlink rfl) (C.2.2.2.2.1 _ hini rfl) hdd hR9, C.2.2.2.2.1 _ hst.1 rfl, C.2.2.2.2.1 _ hst.2 rfl⟩ hpre rfl hlen hl rfl (lv_room hrest) hd ⟨hRc, hRs⟩
end MML
