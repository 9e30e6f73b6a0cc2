/-! the start: classes, constants and texts out of what is given; the made cells as the abstract state's -/
theorem st_get {α : Type} {l : List α} {i : Nat} {d : α} (h : i < l.length) : l[i]? = some (l.getD i d) := by
  rw [List.getD_eq_getElem?_getD, List.getElem?_eq_getElem h]
  rfl
def am_ord : List Nat := [0, 1, 16, 8, 23, 33, 31, 39, 52, 58, 2, 3, 4, 5, 6, 7, 14, 15, 17, 18, 19, 20, 21, 22, 29, 30, 9, 10, 11, 12, 13, 24, 25, 26, 27, 28, 34, 35, 36, 37, 38, 32, 40, 41, 42, 43, 44, 45, 46, 47, 48, 49, 50, 51, 53, 54, 55, 56, 57, 59, 60, 61, 62, 63, 64, 65, 66, 67, 68, 69, 70, 71, 72, 73, 74, 75, 76, 77, 78, 79, 80, 81, 82]
/-- the state at the start: all 0, but that no town holds -/
def am_s0 : Sg := (fun _ _ => 0, fun k => if k = 61 then upd (fun _ => 0) 4 (-1) else fun _ => 0, fun _ _ => 0)
def st_ad (base tA tB tq b : Nat) (adK adV : Nat → Nat) : Nat → Nat := fun k => if k < 83 then base + am_ord.getD k 0 else if k = 90 then tA else if k = 91 then tB else if k = 95 then tq else if k = 96 then b else if k < 120 then adK (k - 100) else adV (k - 120)
set_option maxRecDepth 100000 in
set_option maxHeartbeats 4000000 in
theorem st_inj : ((List.range 83).all fun i => (List.range 83).all fun j => decide (am_ord.getD i 0 = am_ord.getD j 0 → i = j)) = true := by decide +kernel
theorem st_G {l : Launch} {D : va_G} {cy : Nat → ClassId} {base tA tB tq b : Nat} {adK adV : Nat → Nat} : am_G (l, D, cy, st_ad base tA tB tq b adK adV, base) := by
  refine ⟨fun i j hi hj h => ?_, fun i hi => ?_⟩
  · have hi : i < 83 := hi
    have hj : j < 83 := hj
    have h : st_ad base tA tB tq b adK adV i = st_ad base tA tB tq b adK adV j := h
    unfold st_ad at h
    rw [if_pos hi, if_pos hj] at h
    have h2 := List.all_eq_true.mp (List.all_eq_true.mp st_inj i (List.mem_range.mpr hi)) j (List.mem_range.mpr hj)
    exact of_decide_eq_true h2 (by omega)
  · have hi : i < 83 := hi
    show base ≤ st_ad base tA tB tq b adK adV i
    unfold st_ad
    rw [if_pos hi]
    omega
set_option maxRecDepth 100000 in
set_option maxHeartbeats 4000000 in
theorem st_cells (l : Launch) (D : va_G) (cy : Nat → ClassId) (base tA tB tq b : Nat) (adK adV : Nat → Nat) : (List.range 83).map (fun k => am_e (l, D, cy, st_ad base tA tB tq b adK adV, base) am_s0 k) = am_ord.map (fun i => gm_e cy base (ga_165.getD i (.inl (0, [])))) := rfl
set_option maxRecDepth 100000 in
set_option maxHeartbeats 4000000 in
theorem st_P {l : Launch} {D : va_G} {cy : Nat → ClassId} {base tA tB tq b : Nat} {adK adV : Nat → Nat} {H : Heap} (h : va_P D vwCl (gm_w cy base ga_165) H) : va_P D vwCl (am_w (l, D, cy, st_ad base tA tB tq b adK adV, base) am_s0) H := by
  intro k q hk
  have hl : k < 83 := by
    have := (List.getElem?_eq_some_iff.mp hk).1
    simpa [am_w, am_N] using this
  rw [am_get (show k < am_N from hl)] at hk
  have hlen : am_ord.length = 83 := rfl
  have hko : am_ord[k]? = some (am_ord.getD k 0) := by simp [List.getD_eq_getElem?_getD, hlen, hl]
  have he : am_e (l, D, cy, st_ad base tA tB tq b adK adV, base) am_s0 k = gm_e cy base (ga_165.getD (am_ord.getD k 0) (.inl (0, []))) := by
    have h1 := congrArg (fun x => x[k]?) (st_cells l D cy base tA tB tq b adK adV)
    simp only [List.getElem?_map, List.getElem?_range hl, hko, Option.map_some] at h1
    exact Option.some.inj h1
  have hb : (List.range 83).all (fun k => decide (am_ord.getD k 0 < 83)) = true := by decide +kernel
  have hb2 : am_ord.getD k 0 < ga_165.length := of_decide_eq_true (List.all_eq_true.mp hb k (List.mem_range.mpr hl))
  have h3 := h (am_ord.getD k 0) (base + am_ord.getD k 0, gm_e cy base (ga_165.getD (am_ord.getD k 0) (.inl (0, [])))) (gm_get (st_get hb2))
  obtain rfl := Option.some.inj hk
  rw [he]
  have ha : am_ad (l, D, cy, st_ad base tA tB tq b adK adV, base) k = base + am_ord.getD k 0 := by
    show st_ad base tA tB tq b adK adV k = _
    unfold st_ad
    rw [if_pos hl]
  rw [ha]
  exact h3
def st_tm (i : Nat) : Term := [Term.string "EvenTally$Reader" 52, Term.string "EvenTally$Reader" 58, Term.string "EvenTally$Reader" 60, Term.string "EvenTally$Reader" 95, Term.string "EvenTally$Reader" 101, Term.string "EvenTallyModel" 148, Term.string "EvenTallyModel" 154, Term.string "EvenTallyModel" 156].getD i (.int 0)
def st_c0 : List Cond := [Cond.arrayOf (.static "EvenTally" "ABOVE" "[I") .int, Cond.eq (.length (.static "EvenTally" "ABOVE" "[I")) (.int 7), Cond.arrayOf (.static "EvenTally$Actor" "BODIES" "[I") .int, Cond.eq (.length (.static "EvenTally$Actor" "BODIES" "[I")) (.int 21), Cond.eq (.static "java/lang/String" "COMPACT_STRINGS" "Z") (.int 1), Cond.isRef (.static "jdk/internal/util/Preconditions" "SIOOBE_FORMATTER" "Ljava/util/function/BiFunction;"), Cond.eq (.string "EvenTally$Reader" 95) (.string "EvenTallyModel" 130), Cond.eq (.string "EvenTally$Reader" 101) (.string "EvenTallyModel" 136), Cond.eq (.elem (.static "EvenTally" "ABOVE" "[I") (.int 0)) (.int (-1)), Cond.eq (.elem (.static "EvenTally" "ABOVE" "[I") (.int 1)) (.int (0)), Cond.eq (.elem (.static "EvenTally" "ABOVE" "[I") (.int 2)) (.int (0)), Cond.eq (.elem (.static "EvenTally" "ABOVE" "[I") (.int 3)) (.int (0)), Cond.eq (.elem (.static "EvenTally" "ABOVE" "[I") (.int 4)) (.int (1)), Cond.eq (.elem (.static "EvenTally" "ABOVE" "[I") (.int 5)) (.int (2)), Cond.eq (.elem (.static "EvenTally" "ABOVE" "[I") (.int 6)) (.int (3)), Cond.eq (.elem (.static "EvenTally$Actor" "BODIES" "[I") (.int 0)) (.int (1)), Cond.eq (.elem (.static "EvenTally$Actor" "BODIES" "[I") (.int 1)) (.int (2)), Cond.eq (.elem (.static "EvenTally$Actor" "BODIES" "[I") (.int 2)) (.int (3)), Cond.eq (.elem (.static "EvenTally$Actor" "BODIES" "[I") (.int 3)) (.int (11)), Cond.eq (.elem (.static "EvenTally$Actor" "BODIES" "[I") (.int 4)) (.int (0)), Cond.eq (.elem (.static "EvenTally$Actor" "BODIES" "[I") (.int 5)) (.int (0)), Cond.eq (.elem (.static "EvenTally$Actor" "BODIES" "[I") (.int 6)) (.int (0)), Cond.eq (.elem (.static "EvenTally$Actor" "BODIES" "[I") (.int 7)) (.int (21)), Cond.eq (.elem (.static "EvenTally$Actor" "BODIES" "[I") (.int 8)) (.int (0))]
set_option maxRecDepth 100000 in
set_option maxHeartbeats 4000000 in
theorem st_cin0 : ∀ c ∈ st_c0, c ∈ flatC (Jvm.Cond.and given_1 narrow_1) := by decide +kernel
def st_c1 : List Cond := [Cond.eq (.elem (.static "EvenTally$Actor" "BODIES" "[I") (.int 9)) (.int (0)), Cond.eq (.elem (.static "EvenTally$Actor" "BODIES" "[I") (.int 10)) (.int (0)), Cond.eq (.elem (.static "EvenTally$Actor" "BODIES" "[I") (.int 11)) (.int (31)), Cond.eq (.elem (.static "EvenTally$Actor" "BODIES" "[I") (.int 12)) (.int (0)), Cond.eq (.elem (.static "EvenTally$Actor" "BODIES" "[I") (.int 13)) (.int (0)), Cond.eq (.elem (.static "EvenTally$Actor" "BODIES" "[I") (.int 14)) (.int (41)), Cond.eq (.elem (.static "EvenTally$Actor" "BODIES" "[I") (.int 15)) (.int (51)), Cond.eq (.elem (.static "EvenTally$Actor" "BODIES" "[I") (.int 16)) (.int (0)), Cond.eq (.elem (.static "EvenTally$Actor" "BODIES" "[I") (.int 17)) (.int (0)), Cond.eq (.elem (.static "EvenTally$Actor" "BODIES" "[I") (.int 18)) (.int (0)), Cond.eq (.elem (.static "EvenTally$Actor" "BODIES" "[I") (.int 19)) (.int (61)), Cond.eq (.elem (.static "EvenTally$Actor" "BODIES" "[I") (.int 20)) (.int (0)), Cond.exactly (.string "EvenTally$Reader" 52) "java/lang/String", Cond.eq (.field (.string "EvenTally$Reader" 52) "java/lang/String" "coder" "B") (.int 0), Cond.arrayOf (.field (.string "EvenTally$Reader" 52) "java/lang/String" "value" "[B") .byte, Cond.eq (.length (.field (.string "EvenTally$Reader" 52) "java/lang/String" "value" "[B")) (.int 3), Cond.eq (.elem (.field (.string "EvenTally$Reader" 52) "java/lang/String" "value" "[B") (.int 0)) (.int 105), Cond.eq (.elem (.field (.string "EvenTally$Reader" 52) "java/lang/String" "value" "[B") (.int 1)) (.int 110), Cond.eq (.elem (.field (.string "EvenTally$Reader" 52) "java/lang/String" "value" "[B") (.int 2)) (.int 101), Cond.exactly (.string "EvenTally$Reader" 58) "java/lang/String", Cond.eq (.field (.string "EvenTally$Reader" 58) "java/lang/String" "coder" "B") (.int 0), Cond.arrayOf (.field (.string "EvenTally$Reader" 58) "java/lang/String" "value" "[B") .byte, Cond.eq (.length (.field (.string "EvenTally$Reader" 58) "java/lang/String" "value" "[B")) (.int 3), Cond.eq (.elem (.field (.string "EvenTally$Reader" 58) "java/lang/String" "value" "[B") (.int 0)) (.int 116)]
set_option maxRecDepth 100000 in
set_option maxHeartbeats 4000000 in
theorem st_cin1 : ∀ c ∈ st_c1, c ∈ flatC (Jvm.Cond.and given_1 narrow_1) := by decide +kernel
def st_c2 : List Cond := [Cond.eq (.elem (.field (.string "EvenTally$Reader" 58) "java/lang/String" "value" "[B") (.int 1)) (.int 101), Cond.eq (.elem (.field (.string "EvenTally$Reader" 58) "java/lang/String" "value" "[B") (.int 2)) (.int 112), Cond.exactly (.string "EvenTally$Reader" 60) "java/lang/String", Cond.eq (.field (.string "EvenTally$Reader" 60) "java/lang/String" "coder" "B") (.int 0), Cond.arrayOf (.field (.string "EvenTally$Reader" 60) "java/lang/String" "value" "[B") .byte, Cond.eq (.length (.field (.string "EvenTally$Reader" 60) "java/lang/String" "value" "[B")) (.int 4), Cond.eq (.elem (.field (.string "EvenTally$Reader" 60) "java/lang/String" "value" "[B") (.int 0)) (.int 108), Cond.eq (.elem (.field (.string "EvenTally$Reader" 60) "java/lang/String" "value" "[B") (.int 1)) (.int 108), Cond.eq (.elem (.field (.string "EvenTally$Reader" 60) "java/lang/String" "value" "[B") (.int 2)) (.int 111), Cond.eq (.elem (.field (.string "EvenTally$Reader" 60) "java/lang/String" "value" "[B") (.int 3)) (.int 119), Cond.exactly (.string "EvenTally$Reader" 95) "java/lang/String", Cond.eq (.field (.string "EvenTally$Reader" 95) "java/lang/String" "coder" "B") (.int 0), Cond.arrayOf (.field (.string "EvenTally$Reader" 95) "java/lang/String" "value" "[B") .byte, Cond.eq (.length (.field (.string "EvenTally$Reader" 95) "java/lang/String" "value" "[B")) (.int 5), Cond.eq (.elem (.field (.string "EvenTally$Reader" 95) "java/lang/String" "value" "[B") (.int 0)) (.int 115), Cond.eq (.elem (.field (.string "EvenTally$Reader" 95) "java/lang/String" "value" "[B") (.int 1)) (.int 107), Cond.eq (.elem (.field (.string "EvenTally$Reader" 95) "java/lang/String" "value" "[B") (.int 2)) (.int 117), Cond.eq (.elem (.field (.string "EvenTally$Reader" 95) "java/lang/String" "value" "[B") (.int 3)) (.int 100), Cond.eq (.elem (.field (.string "EvenTally$Reader" 95) "java/lang/String" "value" "[B") (.int 4)) (.int 108), Cond.exactly (.string "EvenTally$Reader" 101) "java/lang/String", Cond.eq (.field (.string "EvenTally$Reader" 101) "java/lang/String" "coder" "B") (.int 0), Cond.arrayOf (.field (.string "EvenTally$Reader" 101) "java/lang/String" "value" "[B") .byte, Cond.eq (.length (.field (.string "EvenTally$Reader" 101) "java/lang/String" "value" "[B")) (.int 3), Cond.eq (.elem (.field (.string "EvenTally$Reader" 101) "java/lang/String" "value" "[B") (.int 0)) (.int 60)]
set_option maxRecDepth 100000 in
set_option maxHeartbeats 4000000 in
theorem st_cin2 : ∀ c ∈ st_c2, c ∈ flatC (Jvm.Cond.and given_1 narrow_1) := by decide +kernel
def st_c3 : List Cond := [Cond.eq (.elem (.field (.string "EvenTally$Reader" 101) "java/lang/String" "value" "[B") (.int 1)) (.int 61), Cond.eq (.elem (.field (.string "EvenTally$Reader" 101) "java/lang/String" "value" "[B") (.int 2)) (.int 62), Cond.exactly (.string "EvenTallyModel" 148) "java/lang/String", Cond.eq (.field (.string "EvenTallyModel" 148) "java/lang/String" "coder" "B") (.int 0), Cond.arrayOf (.field (.string "EvenTallyModel" 148) "java/lang/String" "value" "[B") .byte, Cond.eq (.length (.field (.string "EvenTallyModel" 148) "java/lang/String" "value" "[B")) (.int 5), Cond.eq (.elem (.field (.string "EvenTallyModel" 148) "java/lang/String" "value" "[B") (.int 0)) (.int 102), Cond.eq (.elem (.field (.string "EvenTallyModel" 148) "java/lang/String" "value" "[B") (.int 1)) (.int 105), Cond.eq (.elem (.field (.string "EvenTallyModel" 148) "java/lang/String" "value" "[B") (.int 2)) (.int 110), Cond.eq (.elem (.field (.string "EvenTallyModel" 148) "java/lang/String" "value" "[B") (.int 3)) (.int 101), Cond.eq (.elem (.field (.string "EvenTallyModel" 148) "java/lang/String" "value" "[B") (.int 4)) (.int 32), Cond.exactly (.string "EvenTallyModel" 154) "java/lang/String", Cond.eq (.field (.string "EvenTallyModel" 154) "java/lang/String" "coder" "B") (.int 0), Cond.arrayOf (.field (.string "EvenTallyModel" 154) "java/lang/String" "value" "[B") .byte, Cond.eq (.length (.field (.string "EvenTallyModel" 154) "java/lang/String" "value" "[B")) (.int 5), Cond.eq (.elem (.field (.string "EvenTallyModel" 154) "java/lang/String" "value" "[B") (.int 0)) (.int 115), Cond.eq (.elem (.field (.string "EvenTallyModel" 154) "java/lang/String" "value" "[B") (.int 1)) (.int 116), Cond.eq (.elem (.field (.string "EvenTallyModel" 154) "java/lang/String" "value" "[B") (.int 2)) (.int 101), Cond.eq (.elem (.field (.string "EvenTallyModel" 154) "java/lang/String" "value" "[B") (.int 3)) (.int 112), Cond.eq (.elem (.field (.string "EvenTallyModel" 154) "java/lang/String" "value" "[B") (.int 4)) (.int 32), Cond.exactly (.string "EvenTallyModel" 156) "java/lang/String", Cond.eq (.field (.string "EvenTallyModel" 156) "java/lang/String" "coder" "B") (.int 0), Cond.arrayOf (.field (.string "EvenTallyModel" 156) "java/lang/String" "value" "[B") .byte, Cond.eq (.length (.field (.string "EvenTallyModel" 156) "java/lang/String" "value" "[B")) (.int 6)]
set_option maxRecDepth 100000 in
set_option maxHeartbeats 4000000 in
theorem st_cin3 : ∀ c ∈ st_c3, c ∈ flatC (Jvm.Cond.and given_1 narrow_1) := by decide +kernel
def st_c4 : List Cond := [Cond.eq (.elem (.field (.string "EvenTallyModel" 156) "java/lang/String" "value" "[B") (.int 0)) (.int 97), Cond.eq (.elem (.field (.string "EvenTallyModel" 156) "java/lang/String" "value" "[B") (.int 1)) (.int 108), Cond.eq (.elem (.field (.string "EvenTallyModel" 156) "java/lang/String" "value" "[B") (.int 2)) (.int 108), Cond.eq (.elem (.field (.string "EvenTallyModel" 156) "java/lang/String" "value" "[B") (.int 3)) (.int 111), Cond.eq (.elem (.field (.string "EvenTallyModel" 156) "java/lang/String" "value" "[B") (.int 4)) (.int 119), Cond.eq (.elem (.field (.string "EvenTallyModel" 156) "java/lang/String" "value" "[B") (.int 5)) (.int 32), Cond.not (.eq (.string "EvenTally$Reader" 52) (.string "EvenTally$Reader" 58)), Cond.not (.eq (.string "EvenTally$Reader" 52) (.string "EvenTally$Reader" 60)), Cond.not (.eq (.string "EvenTally$Reader" 52) (.string "EvenTally$Reader" 95)), Cond.not (.eq (.string "EvenTally$Reader" 52) (.string "EvenTally$Reader" 101)), Cond.not (.eq (.string "EvenTally$Reader" 52) (.string "EvenTallyModel" 148)), Cond.not (.eq (.string "EvenTally$Reader" 52) (.string "EvenTallyModel" 154)), Cond.not (.eq (.string "EvenTally$Reader" 52) (.string "EvenTallyModel" 156)), Cond.not (.eq (.string "EvenTally$Reader" 58) (.string "EvenTally$Reader" 60)), Cond.not (.eq (.string "EvenTally$Reader" 58) (.string "EvenTally$Reader" 95)), Cond.not (.eq (.string "EvenTally$Reader" 58) (.string "EvenTally$Reader" 101)), Cond.not (.eq (.string "EvenTally$Reader" 58) (.string "EvenTallyModel" 148)), Cond.not (.eq (.string "EvenTally$Reader" 58) (.string "EvenTallyModel" 154)), Cond.not (.eq (.string "EvenTally$Reader" 58) (.string "EvenTallyModel" 156)), Cond.not (.eq (.string "EvenTally$Reader" 60) (.string "EvenTally$Reader" 95)), Cond.not (.eq (.string "EvenTally$Reader" 60) (.string "EvenTally$Reader" 101)), Cond.not (.eq (.string "EvenTally$Reader" 60) (.string "EvenTallyModel" 148)), Cond.not (.eq (.string "EvenTally$Reader" 60) (.string "EvenTallyModel" 154)), Cond.not (.eq (.string "EvenTally$Reader" 60) (.string "EvenTallyModel" 156))]
set_option maxRecDepth 100000 in
set_option maxHeartbeats 4000000 in
theorem st_cin4 : ∀ c ∈ st_c4, c ∈ flatC (Jvm.Cond.and given_1 narrow_1) := by decide +kernel
def st_c5 : List Cond := [Cond.not (.eq (.string "EvenTally$Reader" 95) (.string "EvenTally$Reader" 101)), Cond.not (.eq (.string "EvenTally$Reader" 95) (.string "EvenTallyModel" 148)), Cond.not (.eq (.string "EvenTally$Reader" 95) (.string "EvenTallyModel" 154)), Cond.not (.eq (.string "EvenTally$Reader" 95) (.string "EvenTallyModel" 156)), Cond.not (.eq (.string "EvenTally$Reader" 101) (.string "EvenTallyModel" 148)), Cond.not (.eq (.string "EvenTally$Reader" 101) (.string "EvenTallyModel" 154)), Cond.not (.eq (.string "EvenTally$Reader" 101) (.string "EvenTallyModel" 156)), Cond.not (.eq (.string "EvenTallyModel" 148) (.string "EvenTallyModel" 154)), Cond.not (.eq (.string "EvenTallyModel" 148) (.string "EvenTallyModel" 156)), Cond.not (.eq (.string "EvenTallyModel" 154) (.string "EvenTallyModel" 156))]
set_option maxRecDepth 100000 in
set_option maxHeartbeats 4000000 in
theorem st_cin5 : ∀ c ∈ st_c5, c ∈ flatC (Jvm.Cond.and given_1 narrow_1) := by decide +kernel
set_option maxRecDepth 100000 in
set_option maxHeartbeats 4000000 in
theorem st_str {args : Array Value} {s : State} {A : Nat → Prop} (hv : ∀ c ∈ flatC (Jvm.Cond.and given_1 narrow_1), c.before args s = true) (hA : ∀ a : Nat, a < s.heap.size → ¬ A a) : ∃ adK adV : Nat → Nat, vk_S 8 am_len am_byt adK adV A s s.heap ∧ ∀ i : Nat, i < 8 → (st_tm i).eval args s none [] s = some (.ref (adK i)) := by
  refine vk_Sof (tm := st_tm) ?_ ?_ ?_ ?_ ?_ ?_ ?_ hA
  · decide
  · intro i hi
    match i, hi with
    | 0, _ => exact (hv _ (st_cin1 _ (List.mem_of_getElem? (i := 12) rfl)))
    | 1, _ => exact (hv _ (st_cin1 _ (List.mem_of_getElem? (i := 19) rfl)))
    | 2, _ => exact (hv _ (st_cin2 _ (List.mem_of_getElem? (i := 2) rfl)))
    | 3, _ => exact (hv _ (st_cin2 _ (List.mem_of_getElem? (i := 10) rfl)))
    | 4, _ => exact (hv _ (st_cin2 _ (List.mem_of_getElem? (i := 19) rfl)))
    | 5, _ => exact (hv _ (st_cin3 _ (List.mem_of_getElem? (i := 2) rfl)))
    | 6, _ => exact (hv _ (st_cin3 _ (List.mem_of_getElem? (i := 11) rfl)))
    | 7, _ => exact (hv _ (st_cin3 _ (List.mem_of_getElem? (i := 20) rfl)))
    | i + 8, hi => exact absurd hi (by omega)
  · intro i hi
    match i, hi with
    | 0, _ => exact (hv _ (st_cin1 _ (List.mem_of_getElem? (i := 13) rfl)))
    | 1, _ => exact (hv _ (st_cin1 _ (List.mem_of_getElem? (i := 20) rfl)))
    | 2, _ => exact (hv _ (st_cin2 _ (List.mem_of_getElem? (i := 3) rfl)))
    | 3, _ => exact (hv _ (st_cin2 _ (List.mem_of_getElem? (i := 11) rfl)))
    | 4, _ => exact (hv _ (st_cin2 _ (List.mem_of_getElem? (i := 20) rfl)))
    | 5, _ => exact (hv _ (st_cin3 _ (List.mem_of_getElem? (i := 3) rfl)))
    | 6, _ => exact (hv _ (st_cin3 _ (List.mem_of_getElem? (i := 12) rfl)))
    | 7, _ => exact (hv _ (st_cin3 _ (List.mem_of_getElem? (i := 21) rfl)))
    | i + 8, hi => exact absurd hi (by omega)
  · intro i hi
    match i, hi with
    | 0, _ => exact (hv _ (st_cin1 _ (List.mem_of_getElem? (i := 14) rfl)))
    | 1, _ => exact (hv _ (st_cin1 _ (List.mem_of_getElem? (i := 21) rfl)))
    | 2, _ => exact (hv _ (st_cin2 _ (List.mem_of_getElem? (i := 4) rfl)))
    | 3, _ => exact (hv _ (st_cin2 _ (List.mem_of_getElem? (i := 12) rfl)))
    | 4, _ => exact (hv _ (st_cin2 _ (List.mem_of_getElem? (i := 21) rfl)))
    | 5, _ => exact (hv _ (st_cin3 _ (List.mem_of_getElem? (i := 4) rfl)))
    | 6, _ => exact (hv _ (st_cin3 _ (List.mem_of_getElem? (i := 13) rfl)))
    | 7, _ => exact (hv _ (st_cin3 _ (List.mem_of_getElem? (i := 22) rfl)))
    | i + 8, hi => exact absurd hi (by omega)
  · intro i hi
    match i, hi with
    | 0, _ => exact (hv _ (st_cin1 _ (List.mem_of_getElem? (i := 15) rfl)))
    | 1, _ => exact (hv _ (st_cin1 _ (List.mem_of_getElem? (i := 22) rfl)))
    | 2, _ => exact (hv _ (st_cin2 _ (List.mem_of_getElem? (i := 5) rfl)))
    | 3, _ => exact (hv _ (st_cin2 _ (List.mem_of_getElem? (i := 13) rfl)))
    | 4, _ => exact (hv _ (st_cin2 _ (List.mem_of_getElem? (i := 22) rfl)))
    | 5, _ => exact (hv _ (st_cin3 _ (List.mem_of_getElem? (i := 5) rfl)))
    | 6, _ => exact (hv _ (st_cin3 _ (List.mem_of_getElem? (i := 14) rfl)))
    | 7, _ => exact (hv _ (st_cin3 _ (List.mem_of_getElem? (i := 23) rfl)))
    | i + 8, hi => exact absurd hi (by omega)
  · intro i hi j hj
    match i, hi, j, hj with
    | 0, _, 0, _ => exact (hv _ (st_cin1 _ (List.mem_of_getElem? (i := 16) rfl)))
    | 0, _, 1, _ => exact (hv _ (st_cin1 _ (List.mem_of_getElem? (i := 17) rfl)))
    | 0, _, 2, _ => exact (hv _ (st_cin1 _ (List.mem_of_getElem? (i := 18) rfl)))
    | 1, _, 0, _ => exact (hv _ (st_cin1 _ (List.mem_of_getElem? (i := 23) rfl)))
    | 1, _, 1, _ => exact (hv _ (st_cin2 _ (List.mem_of_getElem? (i := 0) rfl)))
    | 1, _, 2, _ => exact (hv _ (st_cin2 _ (List.mem_of_getElem? (i := 1) rfl)))
    | 2, _, 0, _ => exact (hv _ (st_cin2 _ (List.mem_of_getElem? (i := 6) rfl)))
    | 2, _, 1, _ => exact (hv _ (st_cin2 _ (List.mem_of_getElem? (i := 7) rfl)))
    | 2, _, 2, _ => exact (hv _ (st_cin2 _ (List.mem_of_getElem? (i := 8) rfl)))
    | 2, _, 3, _ => exact (hv _ (st_cin2 _ (List.mem_of_getElem? (i := 9) rfl)))
    | 3, _, 0, _ => exact (hv _ (st_cin2 _ (List.mem_of_getElem? (i := 14) rfl)))
    | 3, _, 1, _ => exact (hv _ (st_cin2 _ (List.mem_of_getElem? (i := 15) rfl)))
    | 3, _, 2, _ => exact (hv _ (st_cin2 _ (List.mem_of_getElem? (i := 16) rfl)))
    | 3, _, 3, _ => exact (hv _ (st_cin2 _ (List.mem_of_getElem? (i := 17) rfl)))
    | 3, _, 4, _ => exact (hv _ (st_cin2 _ (List.mem_of_getElem? (i := 18) rfl)))
    | 4, _, 0, _ => exact (hv _ (st_cin2 _ (List.mem_of_getElem? (i := 23) rfl)))
    | 4, _, 1, _ => exact (hv _ (st_cin3 _ (List.mem_of_getElem? (i := 0) rfl)))
    | 4, _, 2, _ => exact (hv _ (st_cin3 _ (List.mem_of_getElem? (i := 1) rfl)))
    | 5, _, 0, _ => exact (hv _ (st_cin3 _ (List.mem_of_getElem? (i := 6) rfl)))
    | 5, _, 1, _ => exact (hv _ (st_cin3 _ (List.mem_of_getElem? (i := 7) rfl)))
    | 5, _, 2, _ => exact (hv _ (st_cin3 _ (List.mem_of_getElem? (i := 8) rfl)))
    | 5, _, 3, _ => exact (hv _ (st_cin3 _ (List.mem_of_getElem? (i := 9) rfl)))
    | 5, _, 4, _ => exact (hv _ (st_cin3 _ (List.mem_of_getElem? (i := 10) rfl)))
    | 6, _, 0, _ => exact (hv _ (st_cin3 _ (List.mem_of_getElem? (i := 15) rfl)))
    | 6, _, 1, _ => exact (hv _ (st_cin3 _ (List.mem_of_getElem? (i := 16) rfl)))
    | 6, _, 2, _ => exact (hv _ (st_cin3 _ (List.mem_of_getElem? (i := 17) rfl)))
    | 6, _, 3, _ => exact (hv _ (st_cin3 _ (List.mem_of_getElem? (i := 18) rfl)))
    | 6, _, 4, _ => exact (hv _ (st_cin3 _ (List.mem_of_getElem? (i := 19) rfl)))
    | 7, _, 0, _ => exact (hv _ (st_cin4 _ (List.mem_of_getElem? (i := 0) rfl)))
    | 7, _, 1, _ => exact (hv _ (st_cin4 _ (List.mem_of_getElem? (i := 1) rfl)))
    | 7, _, 2, _ => exact (hv _ (st_cin4 _ (List.mem_of_getElem? (i := 2) rfl)))
    | 7, _, 3, _ => exact (hv _ (st_cin4 _ (List.mem_of_getElem? (i := 3) rfl)))
    | 7, _, 4, _ => exact (hv _ (st_cin4 _ (List.mem_of_getElem? (i := 4) rfl)))
    | 7, _, 5, _ => exact (hv _ (st_cin4 _ (List.mem_of_getElem? (i := 5) rfl)))
    | 0, _, j + 3, hj => exact absurd (show j + 3 < 3 from hj) (by omega)
    | 1, _, j + 3, hj => exact absurd (show j + 3 < 3 from hj) (by omega)
    | 2, _, j + 4, hj => exact absurd (show j + 4 < 4 from hj) (by omega)
    | 3, _, j + 5, hj => exact absurd (show j + 5 < 5 from hj) (by omega)
    | 4, _, j + 3, hj => exact absurd (show j + 3 < 3 from hj) (by omega)
    | 5, _, j + 5, hj => exact absurd (show j + 5 < 5 from hj) (by omega)
    | 6, _, j + 5, hj => exact absurd (show j + 5 < 5 from hj) (by omega)
    | 7, _, j + 6, hj => exact absurd (show j + 6 < 6 from hj) (by omega)
    | i + 8, hi, _, _ => exact absurd hi (by omega)
  · intro i j hi hj hn
    match i, hi, j, hj with
    | 0, _, 0, _ => exact absurd rfl hn
    | 0, _, 1, _ => exact Or.inl (hv _ (st_cin4 _ (List.mem_of_getElem? (i := 6) rfl)))
    | 0, _, 2, _ => exact Or.inl (hv _ (st_cin4 _ (List.mem_of_getElem? (i := 7) rfl)))
    | 0, _, 3, _ => exact Or.inl (hv _ (st_cin4 _ (List.mem_of_getElem? (i := 8) rfl)))
    | 0, _, 4, _ => exact Or.inl (hv _ (st_cin4 _ (List.mem_of_getElem? (i := 9) rfl)))
    | 0, _, 5, _ => exact Or.inl (hv _ (st_cin4 _ (List.mem_of_getElem? (i := 10) rfl)))
    | 0, _, 6, _ => exact Or.inl (hv _ (st_cin4 _ (List.mem_of_getElem? (i := 11) rfl)))
    | 0, _, 7, _ => exact Or.inl (hv _ (st_cin4 _ (List.mem_of_getElem? (i := 12) rfl)))
    | 1, _, 0, _ => exact Or.inr (hv _ (st_cin4 _ (List.mem_of_getElem? (i := 6) rfl)))
    | 1, _, 1, _ => exact absurd rfl hn
    | 1, _, 2, _ => exact Or.inl (hv _ (st_cin4 _ (List.mem_of_getElem? (i := 13) rfl)))
    | 1, _, 3, _ => exact Or.inl (hv _ (st_cin4 _ (List.mem_of_getElem? (i := 14) rfl)))
    | 1, _, 4, _ => exact Or.inl (hv _ (st_cin4 _ (List.mem_of_getElem? (i := 15) rfl)))
    | 1, _, 5, _ => exact Or.inl (hv _ (st_cin4 _ (List.mem_of_getElem? (i := 16) rfl)))
    | 1, _, 6, _ => exact Or.inl (hv _ (st_cin4 _ (List.mem_of_getElem? (i := 17) rfl)))
    | 1, _, 7, _ => exact Or.inl (hv _ (st_cin4 _ (List.mem_of_getElem? (i := 18) rfl)))
    | 2, _, 0, _ => exact Or.inr (hv _ (st_cin4 _ (List.mem_of_getElem? (i := 7) rfl)))
    | 2, _, 1, _ => exact Or.inr (hv _ (st_cin4 _ (List.mem_of_getElem? (i := 13) rfl)))
    | 2, _, 2, _ => exact absurd rfl hn
    | 2, _, 3, _ => exact Or.inl (hv _ (st_cin4 _ (List.mem_of_getElem? (i := 19) rfl)))
    | 2, _, 4, _ => exact Or.inl (hv _ (st_cin4 _ (List.mem_of_getElem? (i := 20) rfl)))
    | 2, _, 5, _ => exact Or.inl (hv _ (st_cin4 _ (List.mem_of_getElem? (i := 21) rfl)))
    | 2, _, 6, _ => exact Or.inl (hv _ (st_cin4 _ (List.mem_of_getElem? (i := 22) rfl)))
    | 2, _, 7, _ => exact Or.inl (hv _ (st_cin4 _ (List.mem_of_getElem? (i := 23) rfl)))
    | 3, _, 0, _ => exact Or.inr (hv _ (st_cin4 _ (List.mem_of_getElem? (i := 8) rfl)))
    | 3, _, 1, _ => exact Or.inr (hv _ (st_cin4 _ (List.mem_of_getElem? (i := 14) rfl)))
    | 3, _, 2, _ => exact Or.inr (hv _ (st_cin4 _ (List.mem_of_getElem? (i := 19) rfl)))
    | 3, _, 3, _ => exact absurd rfl hn
    | 3, _, 4, _ => exact Or.inl (hv _ (st_cin5 _ (List.mem_of_getElem? (i := 0) rfl)))
    | 3, _, 5, _ => exact Or.inl (hv _ (st_cin5 _ (List.mem_of_getElem? (i := 1) rfl)))
    | 3, _, 6, _ => exact Or.inl (hv _ (st_cin5 _ (List.mem_of_getElem? (i := 2) rfl)))
    | 3, _, 7, _ => exact Or.inl (hv _ (st_cin5 _ (List.mem_of_getElem? (i := 3) rfl)))
    | 4, _, 0, _ => exact Or.inr (hv _ (st_cin4 _ (List.mem_of_getElem? (i := 9) rfl)))
    | 4, _, 1, _ => exact Or.inr (hv _ (st_cin4 _ (List.mem_of_getElem? (i := 15) rfl)))
    | 4, _, 2, _ => exact Or.inr (hv _ (st_cin4 _ (List.mem_of_getElem? (i := 20) rfl)))
    | 4, _, 3, _ => exact Or.inr (hv _ (st_cin5 _ (List.mem_of_getElem? (i := 0) rfl)))
    | 4, _, 4, _ => exact absurd rfl hn
    | 4, _, 5, _ => exact Or.inl (hv _ (st_cin5 _ (List.mem_of_getElem? (i := 4) rfl)))
    | 4, _, 6, _ => exact Or.inl (hv _ (st_cin5 _ (List.mem_of_getElem? (i := 5) rfl)))
    | 4, _, 7, _ => exact Or.inl (hv _ (st_cin5 _ (List.mem_of_getElem? (i := 6) rfl)))
    | 5, _, 0, _ => exact Or.inr (hv _ (st_cin4 _ (List.mem_of_getElem? (i := 10) rfl)))
    | 5, _, 1, _ => exact Or.inr (hv _ (st_cin4 _ (List.mem_of_getElem? (i := 16) rfl)))
    | 5, _, 2, _ => exact Or.inr (hv _ (st_cin4 _ (List.mem_of_getElem? (i := 21) rfl)))
    | 5, _, 3, _ => exact Or.inr (hv _ (st_cin5 _ (List.mem_of_getElem? (i := 1) rfl)))
    | 5, _, 4, _ => exact Or.inr (hv _ (st_cin5 _ (List.mem_of_getElem? (i := 4) rfl)))
    | 5, _, 5, _ => exact absurd rfl hn
    | 5, _, 6, _ => exact Or.inl (hv _ (st_cin5 _ (List.mem_of_getElem? (i := 7) rfl)))
    | 5, _, 7, _ => exact Or.inl (hv _ (st_cin5 _ (List.mem_of_getElem? (i := 8) rfl)))
    | 6, _, 0, _ => exact Or.inr (hv _ (st_cin4 _ (List.mem_of_getElem? (i := 11) rfl)))
    | 6, _, 1, _ => exact Or.inr (hv _ (st_cin4 _ (List.mem_of_getElem? (i := 17) rfl)))
    | 6, _, 2, _ => exact Or.inr (hv _ (st_cin4 _ (List.mem_of_getElem? (i := 22) rfl)))
    | 6, _, 3, _ => exact Or.inr (hv _ (st_cin5 _ (List.mem_of_getElem? (i := 2) rfl)))
    | 6, _, 4, _ => exact Or.inr (hv _ (st_cin5 _ (List.mem_of_getElem? (i := 5) rfl)))
    | 6, _, 5, _ => exact Or.inr (hv _ (st_cin5 _ (List.mem_of_getElem? (i := 7) rfl)))
    | 6, _, 6, _ => exact absurd rfl hn
    | 6, _, 7, _ => exact Or.inl (hv _ (st_cin5 _ (List.mem_of_getElem? (i := 9) rfl)))
    | 7, _, 0, _ => exact Or.inr (hv _ (st_cin4 _ (List.mem_of_getElem? (i := 12) rfl)))
    | 7, _, 1, _ => exact Or.inr (hv _ (st_cin4 _ (List.mem_of_getElem? (i := 18) rfl)))
    | 7, _, 2, _ => exact Or.inr (hv _ (st_cin4 _ (List.mem_of_getElem? (i := 23) rfl)))
    | 7, _, 3, _ => exact Or.inr (hv _ (st_cin5 _ (List.mem_of_getElem? (i := 3) rfl)))
    | 7, _, 4, _ => exact Or.inr (hv _ (st_cin5 _ (List.mem_of_getElem? (i := 6) rfl)))
    | 7, _, 5, _ => exact Or.inr (hv _ (st_cin5 _ (List.mem_of_getElem? (i := 8) rfl)))
    | 7, _, 6, _ => exact Or.inr (hv _ (st_cin5 _ (List.mem_of_getElem? (i := 9) rfl)))
    | 7, _, 7, _ => exact absurd rfl hn
    | i + 8, hi, _, _ => exact absurd hi (by omega)
    | _, _, j + 8, hj => exact absurd hj (by omega)
def st_w : List Cond := [Cond.laysStatic "EvenTally" "ABOVE" "[I", Cond.laysStatic "EvenTally$Actor" "BODIES" "[I", Cond.laysStatic "java/lang/String" "COMPACT_STRINGS" "Z", Cond.laysStatic "jdk/internal/util/Preconditions" "SIOOBE_FORMATTER" "Ljava/util/function/BiFunction;", Cond.initialized "EvenTally", Cond.initialized "EvenTally$Actor", Cond.initialized "java/lang/String", Cond.initialized "jdk/internal/util/Preconditions", Cond.methodLinkNest "EvenTally$State" 77 ⟨"EvenTally", "isUnder", "(II)Z"⟩ "EvenTally", Cond.fieldLinkNest "EvenTally$Actor" 41 "EvenTally" "ABOVE" "[I" "EvenTally", Cond.arrayClass .int, Cond.arrayClass .long, Cond.arrayClass .boolean, Cond.stringRef "EvenTally$Reader" 52 "ine", Cond.stringRef "EvenTally$Reader" 58 "tep", Cond.stringRef "EvenTally$Reader" 60 "llow", Cond.stringRef "EvenTally$Reader" 95 "skudl", Cond.stringRef "EvenTally$Reader" 101 "<=>", Cond.stringRef "EvenTallyModel" 148 "fine ", Cond.stringRef "EvenTallyModel" 154 "step ", Cond.stringRef "EvenTallyModel" 156 "allow ", Cond.stringRef "EvenTallyModel" 130 "skudl", Cond.stringRef "EvenTallyModel" 136 "<=>", Cond.instantiable RX0 5, Cond.instantiable RX1 14, Cond.instantiable RX2 5, Cond.instantiable RX3 6, Cond.instantiable RX4 14, Cond.instantiable RX5 7, Cond.instantiable RX6 7, Cond.instantiable RX7 38]
set_option maxRecDepth 100000 in
set_option maxHeartbeats 4000000 in
theorem st_win : ∀ w ∈ st_w, w ∈ lw_tbl := by decide +kernel
set_option maxRecDepth 100000 in
set_option maxHeartbeats 4000000 in
/-- all that is given, at the law's entry -/
theorem st_all {args : Array Value} {s : State} (l : Launch) (b : Nat) (hts : ∀ w ∈ lw_tbl, w.before args s = true) (hgv : (Jvm.Cond.and given_1 narrow_1).before args s = true) : ∃ (D : va_G) (cy : Nat → ClassId) (ad : Nat → Nat), (∃ (tA tB tq : Nat) (adK adV : Nat → Nat), ad = st_ad s.heap.size tA tB tq b adK adV) ∧ am_F (l, D, cy, ad, s.heap.size) s s.heap := by
  have hv := flat_of_before _ hgv
  have hA : ∀ a : Nat, a < s.heap.size → ¬ (fun q : Nat => s.heap.size ≤ q) a := fun a h => Nat.not_le.mpr h
  have hwl : ∀ w ∈ wsL_law, w.before args s = true := fun w h => hts w (wsL_law_in w h)
  obtain ⟨c0, i0, hk0⟩ := u_known (C := RX0) (T := TX0) (N := 5) (n := 5) hwl inlX0 (hts _ (st_win _ (List.mem_of_getElem? (i := 23) rfl)))
  obtain ⟨c1, i1, hk1⟩ := u_known (C := RX1) (T := TX1) (N := 14) (n := 14) hwl inlX1 (hts _ (st_win _ (List.mem_of_getElem? (i := 24) rfl)))
  obtain ⟨c2, i2, hk2⟩ := u_known (C := RX2) (T := TX2) (N := 5) (n := 5) hwl inlX2 (hts _ (st_win _ (List.mem_of_getElem? (i := 25) rfl)))
  obtain ⟨c3, i3, hk3⟩ := u_known (C := RX3) (T := TX3) (N := 6) (n := 6) hwl inlX3 (hts _ (st_win _ (List.mem_of_getElem? (i := 26) rfl)))
  obtain ⟨c4, i4, hk4⟩ := u_known (C := RX4) (T := TX4) (N := 14) (n := 14) hwl inlX4 (hts _ (st_win _ (List.mem_of_getElem? (i := 27) rfl)))
  obtain ⟨c5, i5, hk5⟩ := u_known (C := RX5) (T := TX5) (N := 7) (n := 7) hwl inlX5 (hts _ (st_win _ (List.mem_of_getElem? (i := 28) rfl)))
  obtain ⟨c6, i6, hk6⟩ := u_known (C := RX6) (T := TX6) (N := 7) (n := 7) hwl inlX6 (hts _ (st_win _ (List.mem_of_getElem? (i := 29) rfl)))
  obtain ⟨c7, i7, hk7⟩ := u_known (C := RX7) (T := TX7) (N := 38) (n := 38) hwl inlX7 (hts _ (st_win _ (List.mem_of_getElem? (i := 30) rfl)))
  obtain ⟨y0, ky0, cp0, hy0, hy0', hy0''⟩ := Cond.arrayClass_spec (hts _ (st_win _ (List.mem_of_getElem? (i := 10) rfl)))
  obtain ⟨y1, ky1, cp1, hy1, hy1', hy1''⟩ := Cond.arrayClass_spec (hts _ (st_win _ (List.mem_of_getElem? (i := 11) rfl)))
  obtain ⟨y2, ky2, cp2, hy2, hy2', hy2''⟩ := Cond.arrayClass_spec (hts _ (st_win _ (List.mem_of_getElem? (i := 12) rfl)))
  obtain ⟨tA, htA, hTA⟩ := va_Tof (N := 7) (f := fun j => .int (am_above j)) (A := fun q => s.heap.size ≤ q) (by decide) (hv _ (st_cin0 _ (List.mem_of_getElem? (i := 0) rfl))) (va_eqt (hv _ (st_cin0 _ (List.mem_of_getElem? (i := 1) rfl)))) (fun j hj => by
    match j, hj with
    | 0, _ => exact va_eqt (hv _ (st_cin0 _ (List.mem_of_getElem? (i := 8) rfl)))
    | 1, _ => exact va_eqt (hv _ (st_cin0 _ (List.mem_of_getElem? (i := 9) rfl)))
    | 2, _ => exact va_eqt (hv _ (st_cin0 _ (List.mem_of_getElem? (i := 10) rfl)))
    | 3, _ => exact va_eqt (hv _ (st_cin0 _ (List.mem_of_getElem? (i := 11) rfl)))
    | 4, _ => exact va_eqt (hv _ (st_cin0 _ (List.mem_of_getElem? (i := 12) rfl)))
    | 5, _ => exact va_eqt (hv _ (st_cin0 _ (List.mem_of_getElem? (i := 13) rfl)))
    | 6, _ => exact va_eqt (hv _ (st_cin0 _ (List.mem_of_getElem? (i := 14) rfl)))
    | j + 7, hj => exact absurd (show j + 7 < 7 from hj) (by omega)) hA
  obtain ⟨tB, htB, hTB⟩ := va_Tof (N := 21) (f := fun j => .int (am_bodies j)) (A := fun q => s.heap.size ≤ q) (by decide) (hv _ (st_cin0 _ (List.mem_of_getElem? (i := 2) rfl))) (va_eqt (hv _ (st_cin0 _ (List.mem_of_getElem? (i := 3) rfl)))) (fun j hj => by
    match j, hj with
    | 0, _ => exact va_eqt (hv _ (st_cin0 _ (List.mem_of_getElem? (i := 15) rfl)))
    | 1, _ => exact va_eqt (hv _ (st_cin0 _ (List.mem_of_getElem? (i := 16) rfl)))
    | 2, _ => exact va_eqt (hv _ (st_cin0 _ (List.mem_of_getElem? (i := 17) rfl)))
    | 3, _ => exact va_eqt (hv _ (st_cin0 _ (List.mem_of_getElem? (i := 18) rfl)))
    | 4, _ => exact va_eqt (hv _ (st_cin0 _ (List.mem_of_getElem? (i := 19) rfl)))
    | 5, _ => exact va_eqt (hv _ (st_cin0 _ (List.mem_of_getElem? (i := 20) rfl)))
    | 6, _ => exact va_eqt (hv _ (st_cin0 _ (List.mem_of_getElem? (i := 21) rfl)))
    | 7, _ => exact va_eqt (hv _ (st_cin0 _ (List.mem_of_getElem? (i := 22) rfl)))
    | 8, _ => exact va_eqt (hv _ (st_cin0 _ (List.mem_of_getElem? (i := 23) rfl)))
    | 9, _ => exact va_eqt (hv _ (st_cin1 _ (List.mem_of_getElem? (i := 0) rfl)))
    | 10, _ => exact va_eqt (hv _ (st_cin1 _ (List.mem_of_getElem? (i := 1) rfl)))
    | 11, _ => exact va_eqt (hv _ (st_cin1 _ (List.mem_of_getElem? (i := 2) rfl)))
    | 12, _ => exact va_eqt (hv _ (st_cin1 _ (List.mem_of_getElem? (i := 3) rfl)))
    | 13, _ => exact va_eqt (hv _ (st_cin1 _ (List.mem_of_getElem? (i := 4) rfl)))
    | 14, _ => exact va_eqt (hv _ (st_cin1 _ (List.mem_of_getElem? (i := 5) rfl)))
    | 15, _ => exact va_eqt (hv _ (st_cin1 _ (List.mem_of_getElem? (i := 6) rfl)))
    | 16, _ => exact va_eqt (hv _ (st_cin1 _ (List.mem_of_getElem? (i := 7) rfl)))
    | 17, _ => exact va_eqt (hv _ (st_cin1 _ (List.mem_of_getElem? (i := 8) rfl)))
    | 18, _ => exact va_eqt (hv _ (st_cin1 _ (List.mem_of_getElem? (i := 9) rfl)))
    | 19, _ => exact va_eqt (hv _ (st_cin1 _ (List.mem_of_getElem? (i := 10) rfl)))
    | 20, _ => exact va_eqt (hv _ (st_cin1 _ (List.mem_of_getElem? (i := 11) rfl)))
    | j + 21, hj => exact absurd (show j + 21 < 21 from hj) (by omega)) hA
  obtain ⟨adK, adV, hS, hSe⟩ := st_str hv hA
  have eK : ∀ tq i, i < 8 → st_ad s.heap.size tA tB tq b adK adV (100 + i) = adK i := by
    intro tq i hi
    match i, hi with
    | 0, _ => rfl
    | 1, _ => rfl
    | 2, _ => rfl
    | 3, _ => rfl
    | 4, _ => rfl
    | 5, _ => rfl
    | 6, _ => rfl
    | 7, _ => rfl
    | i + 8, hi => exact absurd hi (by omega)
  have eV : ∀ tq i, i < 8 → st_ad s.heap.size tA tB tq b adK adV (120 + i) = adV i := by
    intro tq i hi
    match i, hi with
    | 0, _ => rfl
    | 1, _ => rfl
    | 2, _ => rfl
    | 3, _ => rfl
    | 4, _ => rfl
    | 5, _ => rfl
    | 6, _ => rfl
    | 7, _ => rfl
    | i + 8, hi => exact absurd hi (by omega)
  have hq := va_Zqof (hts _ (st_win _ (List.mem_of_getElem? (i := 3) rfl))) (hts _ (st_win _ (List.mem_of_getElem? (i := 7) rfl))) (hv _ (st_cin0 _ (List.mem_of_getElem? (i := 5) rfl))) hA
  obtain ⟨tq, hq⟩ : ∃ tq : Nat, va_Z "jdk/internal/util/Preconditions" "SIOOBE_FORMATTER" "Ljava/util/function/BiFunction;" .null (fun q => s.heap.size ≤ q) s s.heap ∨ va_Z "jdk/internal/util/Preconditions" "SIOOBE_FORMATTER" "Ljava/util/function/BiFunction;" (.ref tq) (fun q => s.heap.size ≤ q) s s.heap := by
    rcases hq with h | ⟨t, h⟩
    · exact ⟨0, Or.inl h⟩
    · exact ⟨t, Or.inr h⟩
  have ar : ∀ {ty : FieldType} {y : ClassId} {k : Class} {cp : ClassId}, s.vm.classes[y]? = some k → k.kind = .array cp ty → ArrOfT s y ty := fun h1 h2 n z => ⟨fun k h => (by cases h), _, h1, _, h2⟩
  refine ⟨(fun k => [c0, c1, c2, c3, c4, c5, c6, c7].getD k c0, fun k => [i0, i1, i2, i3, i4, i5, i6, i7].getD k i0), fun k => [y0, y1, y2].getD k y0, st_ad s.heap.size tA tB tq b adK adV, ⟨tA, tB, tq, adK, adV, rfl⟩, ⟨⟨?_, ?_⟩, va_Zref (hts _ (st_win _ (List.mem_of_getElem? (i := 0) rfl))) (hts _ (st_win _ (List.mem_of_getElem? (i := 4) rfl))) htA hA, va_Zref (hts _ (st_win _ (List.mem_of_getElem? (i := 1) rfl))) (hts _ (st_win _ (List.mem_of_getElem? (i := 5) rfl))) htB hA, hTA, hTB, ⟨fun i hi => by have h := hS.1 i hi; rw [← eK tq i hi, ← eV tq i hi] at h; exact h, fun i j hi hj h => hS.2 i j hi hj (by rw [← eK tq i hi, ← eK tq j hj]; exact h)⟩, ?_, va_Nw.of rfl (hts _ (st_win _ (List.mem_of_getElem? (i := 8) rfl))), va_Nw.of rfl (hts _ (st_win _ (List.mem_of_getElem? (i := 9) rfl))), va_Zof (hts _ (st_win _ (List.mem_of_getElem? (i := 2) rfl))) (hts _ (st_win _ (List.mem_of_getElem? (i := 6) rfl))) (va_eqt (hv _ (st_cin0 _ (List.mem_of_getElem? (i := 4) rfl)))) hA, hq⟩⟩
  · intro k q hq
    match k, hq with
    | 0, hq => cases hq; exact hk0
    | 1, hq => cases hq; exact hk1
    | 2, hq => cases hq; exact hk2
    | 3, hq => cases hq; exact hk3
    | 4, hq => cases hq; exact hk4
    | 5, hq => cases hq; exact hk5
    | 6, hq => cases hq; exact hk6
    | 7, hq => cases hq; exact hk7
    | k + 8, hq => simp [vwCl] at hq
  · intro k q hq
    match k, hq with
    | 0, hq => cases hq; exact ⟨ar hy0' hy0'', hy0⟩
    | 1, hq => cases hq; exact ⟨ar hy1' hy1'', hy1⟩
    | 2, hq => cases hq; exact ⟨ar hy2' hy2'', hy2⟩
    | k + 3, hq => simp [am_t] at hq
  · exact (List.forall_mem_cons.mpr ⟨vk_R.of (hts _ (st_win _ (List.mem_of_getElem? (i := 13) rfl))) (hSe 0 (by decide)), (List.forall_mem_cons.mpr ⟨vk_R.of (hts _ (st_win _ (List.mem_of_getElem? (i := 14) rfl))) (hSe 1 (by decide)), (List.forall_mem_cons.mpr ⟨vk_R.of (hts _ (st_win _ (List.mem_of_getElem? (i := 15) rfl))) (hSe 2 (by decide)), (List.forall_mem_cons.mpr ⟨vk_R.of (hts _ (st_win _ (List.mem_of_getElem? (i := 16) rfl))) (hSe 3 (by decide)), (List.forall_mem_cons.mpr ⟨vk_R.of (hts _ (st_win _ (List.mem_of_getElem? (i := 17) rfl))) (hSe 4 (by decide)), (List.forall_mem_cons.mpr ⟨vk_R.of (hts _ (st_win _ (List.mem_of_getElem? (i := 18) rfl))) (hSe 5 (by decide)), (List.forall_mem_cons.mpr ⟨vk_R.of (hts _ (st_win _ (List.mem_of_getElem? (i := 19) rfl))) (hSe 6 (by decide)), (List.forall_mem_cons.mpr ⟨vk_R.of (hts _ (st_win _ (List.mem_of_getElem? (i := 20) rfl))) (hSe 7 (by decide)), (List.forall_mem_cons.mpr ⟨vk_R.of (hts _ (st_win _ (List.mem_of_getElem? (i := 21) rfl))) (va_eqR (hv _ (st_cin0 _ (List.mem_of_getElem? (i := 6) rfl))) (hSe 3 (by decide))), (List.forall_mem_cons.mpr ⟨vk_R.of (hts _ (st_win _ (List.mem_of_getElem? (i := 22) rfl))) (va_eqR (hv _ (st_cin0 _ (List.mem_of_getElem? (i := 7) rfl))) (hSe 4 (by decide))), (fun _ h => absurd h List.not_mem_nil)⟩)⟩)⟩)⟩)⟩)⟩)⟩)⟩)⟩)⟩)
