/-! THE MAKING: a machine whose cells come one behind the other; a cell's address is the first one's and its place; all that it does is known -/
abbrev Gc : Type := (Nat × List Value) ⊕ (Nat × Nat × (Nat → Int32))
def gm_v (b : Nat) : Value → Value
  | .ref k => .ref (b + k)
  | v => v
theorem gm_v_cat (b : Nat) (v : Value) : (gm_v b v).category = v.category := by cases v <;> rfl
def gm_e (cy : Nat → ClassId) (b : Nat) : Gc → va_E
  | .inl (ci, vs) => .inr (ci, vs.map (gm_v b))
  | .inr (0, n, f) => .inl (cy 0, n, .inl f)
  | .inr (1, n, _) => .inl (cy 1, n, .inr (.inl (fun _ => 0)))
  | .inr (_, n, f) => .inl (cy 2, n, .inl f)
def gm_w (cy : Nat → ClassId) (b : Nat) (al : List Gc) : va_W := (List.range al.length).map (fun j => (b + j, gm_e cy b (al.getD j (.inl (0, [])))))
theorem gm_get {cy : Nat → ClassId} {b : Nat} {al : List Gc} {j : Nat} {x : Gc} (h : al[j]? = some x) : (gm_w cy b al)[j]? = some (b + j, gm_e cy b x) := by
  have hl := (List.getElem?_eq_some_iff.mp h).1
  unfold gm_w
  rw [List.getElem?_map, List.getElem?_range hl]
  simp [List.getD_eq_getElem?_getD, h]
theorem gm_len {cy : Nat → ClassId} {b : Nat} {al : List Gc} : (gm_w cy b al).length = al.length := by simp [gm_w]
theorem gm_push {cy : Nat → ClassId} {b : Nat} {al : List Gc} {x : Gc} : gm_w cy b al ++ [(b + al.length, gm_e cy b x)] = gm_w cy b (al ++ [x]) := by
  apply List.ext_getElem?
  intro j
  by_cases hj : j < al.length
  · rw [List.getElem?_append_left (by rw [gm_len]; exact hj), gm_get (x := al[j]) (by simp [hj]), gm_get (x := al[j]) (by rw [List.getElem?_append_left hj]; simp [hj])]
  · rw [List.getElem?_append_right (by rw [gm_len]; omega), gm_len]
    by_cases he : j = al.length
    · subst he
      rw [gm_get (x := x) (by simp)]
      simp
    · rw [List.getElem?_eq_none (by simp; omega), List.getElem?_eq_none (by rw [gm_len]; simp; omega)]
theorem gm_set {cy : Nat → ClassId} {b : Nat} {al : List Gc} {j : Nat} {x : Gc} {e : va_E} (h : j < al.length) (he : e = gm_e cy b x) : (gm_w cy b al).set j (b + j, e) = gm_w cy b (al.set j x) := by
  subst he
  apply List.ext_getElem?
  intro i
  by_cases hi : i = j
  · subst hi
    rw [List.getElem?_set_self (by rw [gm_len]; exact h), gm_get (x := x) (by simp [h])]
  · rw [List.getElem?_set_ne (Ne.symm hi)]
    by_cases hl : i < al.length
    · rw [gm_get (x := al[i]) (by simp [hl]), gm_get (x := al[i]) (by rw [List.getElem?_set_ne (Ne.symm hi)]; simp [hl])]
    · rw [List.getElem?_eq_none (by rw [gm_len]; omega), List.getElem?_eq_none (by rw [gm_len]; simp; omega)]
theorem gm_D {cy : Nat → ClassId} {b : Nat} {al : List Gc} {A : Nat → Prop} (hA : ∀ q, b ≤ q → A q) : va_D A (gm_w cy b al) := by
  have key : ∀ (i : Nat) (q : Nat × va_E), (gm_w cy b al)[i]? = some q → q.1 = b + i := by
    intro i q hq
    have hl : i < al.length := by rw [← gm_len (cy := cy) (b := b)]; exact (List.getElem?_eq_some_iff.mp hq).1
    rw [gm_get (x := al[i]) (by simp [hl])] at hq
    cases hq
    rfl
  refine ⟨fun i j p q hi hj hpq => ?_, fun k q hk => ?_⟩
  · have h1 := key i p hi
    have h2 := key j q hj
    omega
  · rw [key k q hk]
    exact hA _ (by omega)
theorem wx_obj : Cond.instanceMethod Lib.objectInit ∈ wsL_law ∧ Cond.code Lib.objectInit ⟨#[0xb1]⟩ 1 none ∈ wsL_law := ⟨wm_r1 _ (List.mem_of_getElem? (i := 10) rfl), wm_r1 _ (List.mem_of_getElem? (i := 11) rfl)⟩
/-- classes and array classes; they are where the making begins -/
def gm_F (D : va_G) (cy : Nat → ClassId) (U : State) : Prop := va_K D vwCl [(cy 0, .int), (cy 1, .long), (cy 2, .boolean)] U
/-- (whatever stands at 0, x0, stands there still) -/
def gm_L (b : Nat) (x0 : Value) (lsC : Array Slot) (n : Nat) (ls : List (Option Value)) : Prop := ∃ l, lv_has lsC n l ∧ (∀ (i : Nat) (v : Value), ls[i]? = some (some v) → (i, gm_v b v) ∈ l) ∧ (0, x0) ∈ l ∧ x0.category = 1
abbrev Gx : Type := Program × Launch × Env × Room × State × MethodId × Array Value × List Frame × Method × Code × va_G × (Nat → ClassId) × Nat × Value
def gm_A (b : Nat) : Nat → Prop := fun q => b ≤ q
def gm_W (K : Gx) (Qe : State → Prop) (pc : Nat) (ls : List (Option Value)) (st : List Value) (al : List Gc) (cells slots : Nat) : Prop := match K with
  | (p, l, e, R, s, m, args, below, meth, c, D, cy, b, x0) => ∀ (H : Heap) (locs : List Loc) (lsC : Array Slot), va_S (gm_A b) s.heap H locs → va_P D vwCl (gm_w cy b al) H → H.size = b + al.length → gm_L b x0 lsC c.maxLocals ls → W p l e R s m args below meth c H locs cells slots Qe (F0 m pc lsC (st.map (gm_v b)))
def gm_X (M : Mi) (d mc ms : Nat) (K : Gx) : Prop := match K with
  | (p, _, _, R, s, m, _, _, meth, c, D, cy, b, x0) => p.tables.exec = Jvm.exec ∧ c.code = M.2.1 ∧ c.maxLocals = M.2.2.1 ∧ s.vm.findClass M.1 = some m.cls ∧ (∀ w ∈ wsL_law, w.before K.2.2.2.2.2.2.1 s = true) ∧ meth.sig.returnType = M.2.2.2 ∧ meth.locks = false ∧ gm_F D cy s ∧ b ≤ s.heap.size ∧ (d ≤ R.frames ∧ 40 * d ≤ R.locals ∧ mc ≤ R.cells ∧ ms ≤ R.slots) ∧ (M.2.2.2 = none → meth.name = "<init>")
def gm_Pc (D : va_G) (cy : Nat → ClassId) (b : Nat) (as : List Value) (al : List Gc) : Array Value → State → Prop := fun v U => v = (as.map (gm_v b)).toArray ∧ va_P D vwCl (gm_w cy b al) U.heap ∧ gm_F D cy U ∧ U.heap.size = b + al.length
def gm_Qc (D : va_G) (cy : Nat → ClassId) (b : Nat) (al : List Gc) : Array Value → State → Outcome → State → Prop := fun _ st oc t => oc = .returned none ∧ va_P D vwCl (gm_w cy b al) t.heap ∧ t.heap.size = b + al.length ∧ va_F (gm_A b) st t
def gm_rm (d mc ms : Nat) : Room := { frames := d, cells := mc, slots := ms, locals := 40 * d }
def gm_Ct (l : Launch) (D : va_G) (cy : Nat → ClassId) (b d : Nat) (y : MethodName) (M : Mi) (as : List Value) (al al' : List Gc) (mc ms : Nat) : Prop := Met l y (am_ws y M) (gm_rm d mc ms) (gm_Pc D cy b as al) (gm_Qc D cy b al') mc ms (gm_A b)
theorem gm_blind {D : va_G} {cy : Nat → ClassId} {b : Nat} {as : List Value} {al : List Gc} : FrameBlind (gm_Pc D cy b as al) := fun a U g mk h => ⟨h.1, h.2.1, va_K.moved (u := U) (U := U.calling g mk a) (Vm.Alike.refl U.vm) h.2.2.1, h.2.2.2⟩
def gm_E (al : List Gc) (mc ms : Nat) (K : Gx) : State → Prop := match K with
  | (_, _, _, _, s, _, args, below, _, _, D, cy, b, _) => MQ below (gm_Qc D cy b al) args s mc ms (gm_A b)
theorem gm_enter {l : Launch} {D : va_G} {cy : Nat → ClassId} {b d k n mc ms : Nat} {y : MethodName} {M : Mi} {al al' : List Gc} {x : Value} (hy : plainName y.cls = true) (hM : M.1 = y.cls) (hin : y.name = "<init>") (hr : M.2.2.2 = none) (hn : 1 + n = M.2.2.1) (hx : x = .ref k)
    (kk : ∀ K : Gx, gm_X M (d + 1) mc ms K → gm_W K (gm_E al' mc ms K) 0 (some x :: List.replicate n none) [] al 0 0) : gm_Ct l D cy b (d + 1) y M [x] al al' mc ms := by
  subst hx
  refine Met.ofW (cc := M.2.1) (maxL := M.2.2.1) (ret := M.2.2.2) hy rfl ?_
  intro p e s m args below meth c s₁ B hml hv
  obtain ⟨rfl, hP, hF, hz⟩ := hv
  have hts := atoms_spec (ws := am_ws y M) B.pre
  have hl := lv_entry ([Value.ref (b + k)]) (n := M.2.2.1) (by simp [lg_sl, Value.category]; omega)
  show W p l e _ s m ([Value.ref (b + k)] : List Value).toArray below meth c s.heap [] 0 0 _ (entryFrame m ([Value.ref (b + k)] : List Value).toArray M.2.2.1)
  rw [lg_entry_eq]
  refine kk (p, l, e, (headSpec (am_ws y M) (gm_rm (d + 1) mc ms)).room, s, m, ([Value.ref (b + k)] : List Value).toArray, below, meth, c, D, cy, b, .ref (b + k)) ⟨B.exec, B.bytes, hml, by rw [hM]; exact findClass_of_methodNamed B.named, fun w hw => hts w (List.mem_cons_of_mem _ hw), B.returns, B.notSynchronized, hF, by omega, ⟨Nat.le_refl _, Nat.le_refl _, Nat.le_refl _, Nat.le_refl _⟩, fun _ => (name_of_methodNamed B.named B.method).1.trans hin⟩ s.heap [] _ va_S.rf hP hz ?_
  rw [hml]
  refine ⟨_, hl, fun i v h => ?_, by simp [lv_args], rfl⟩
  match i, h with
  | 0, h => simp at h; subst h; simp [lv_args, gm_v]
  | i + 1, h =>
    simp [List.getElem?_replicate] at h
theorem gm_L.set1 {bb : Nat} {x0 : Value} {ls' : Array Slot} {n : Nat} {ls : List (Option Value)} {l : List (Nat × Value)} {i : Nat} {v : Value} (h0 : i ≠ 0) (hx : x0.category = 1) (hm : (0, x0) ∈ l) (hok : am_ok ls i = true) (h2 : ∀ (i : Nat) (v : Value), ls[i]? = some (some v) → (i, gm_v bb v) ∈ l) (h' : lv_has ls' n ((i, gm_v bb v) :: l.filter (fun q => !(q.1 == i) && !(q.1 + 1 == i && q.2.category == 2)))) : gm_L bb x0 ls' n (ls.set i (some v)) := by
  refine ⟨_, h', fun j w hj => ?_, List.mem_cons_of_mem _ (List.mem_filter.mpr ⟨hm, by simp [hx]; omega⟩), hx⟩
  by_cases hij : j = i
  · subst hij
    by_cases hl : j < ls.length
    · rw [List.getElem?_set_self hl] at hj
      cases hj
      exact List.mem_cons_self
    · rw [List.getElem?_eq_none (by simp; omega)] at hj
      cases hj
  · rw [List.getElem?_set_ne (Ne.symm hij)] at hj
    refine List.mem_cons_of_mem _ (List.mem_filter.mpr ⟨h2 j w hj, ?_⟩)
    have : ¬ (j + 1 = i ∧ (gm_v bb w).category = 2) := by
      rintro ⟨e1, e2⟩
      subst e1
      simp only [am_ok, hj, beq_iff_eq] at hok
      rw [gm_v_cat] at e2
      omega
    simp only [Bool.and_eq_true, Bool.not_eq_true', beq_eq_false_iff_ne, ne_eq, Bool.and_eq_false_iff]
    refine ⟨hij, ?_⟩
    by_cases e1 : j + 1 = i
    · exact Or.inr fun e2 => this ⟨e1, e2⟩
    · exact Or.inl e1
section GM
variable {M : Mi} {d mc ms : Nat} {K : Gx} {Qe : State → Prop} {pc : Nat} {ls : List (Option Value)} {st : List Value} {al : List Gc} {cells slots : Nat}
theorem gm_L.at {b : Nat} {x0 : Value} {lsC : Array Slot} {n : Nat} {ls : List (Option Value)} (h : gm_L b x0 lsC n ls) {i : Nat} {v : Value} (hi : ls[i]? = some (some v)) : lsC[i]? = some (.val (gm_v b v)) := by
  obtain ⟨l, h1, h2, -⟩ := h
  exact h1.2.2 _ (h2 i v hi)
theorem gm_aload_n (X : gm_X M d mc ms K) {n : Fin 4} {i x : Nat} (hd : decode M.2.1 pc = .ok (.aload_n n, 1)) (hi : (n : Nat) = i) (hl : ls[i]? = some (some (.ref x))) (k : gm_W K Qe (pc + 1) ls (.ref x :: st) al cells slots) : gm_W K Qe pc ls st al cells slots := by
  obtain ⟨p, l, e, R, s, m, sa, below, meth, c, D, cy, b, x0⟩ := K
  intro H locs lsC hS hP hz hL
  exact lv_aload_n X.1 X.2.1 hd hi (hL.at hl) (k H locs lsC hS hP hz hL)
theorem gm_iconst (X : gm_X M d mc ms K) {n : Int} {v : Int32} (hd : decode M.2.1 pc = .ok (.iconst n, 1)) (hv : Int32.ofInt n = v) (k : gm_W K Qe (pc + 1) ls (.int v :: st) al cells slots) : gm_W K Qe pc ls st al cells slots := by
  obtain ⟨p, l, e, R, s, m, sa, below, meth, c, D, cy, b, x0⟩ := K
  intro H locs lsC hS hP hz hL
  exact lv_iconst X.1 X.2.1 hd hv (k H locs lsC hS hP hz hL)
theorem gm_bipush (X : gm_X M d mc ms K) {n : Int} {v : Int32} (hd : decode M.2.1 pc = .ok (.bipush n, 2)) (hv : (Int8.ofInt n).toInt32 = v) (k : gm_W K Qe (pc + 2) ls (.int v :: st) al cells slots) : gm_W K Qe pc ls st al cells slots := by
  obtain ⟨p, l, e, R, s, m, sa, below, meth, c, D, cy, b, x0⟩ := K
  intro H locs lsC hS hP hz hL
  exact lv_bipush X.1 X.2.1 hd hv (k H locs lsC hS hP hz hL)
theorem gm_sipush (X : gm_X M d mc ms K) {n : Int} {v : Int32} (hd : decode M.2.1 pc = .ok (.sipush n, 3)) (hv : (Int16.ofInt n).toInt32 = v) (k : gm_W K Qe (pc + 3) ls (.int v :: st) al cells slots) : gm_W K Qe pc ls st al cells slots := by
  obtain ⟨p, l, e, R, s, m, sa, below, meth, c, D, cy, b, x0⟩ := K
  intro H locs lsC hS hP hz hL
  exact lv_sipush X.1 X.2.1 hd hv (k H locs lsC hS hP hz hL)
theorem gm_dup (X : gm_X M d mc ms K) {x : Nat} (hd : decode M.2.1 pc = .ok (.dup, 1)) (k : gm_W K Qe (pc + 1) ls (.ref x :: .ref x :: st) al cells slots) : gm_W K Qe pc ls (.ref x :: st) al cells slots := by
  obtain ⟨p, l, e, R, s, m, sa, below, meth, c, D, cy, b, x0⟩ := K
  intro H locs lsC hS hP hz hL
  exact lv_dup X.1 X.2.1 hd rfl (k H locs lsC hS hP hz hL)
theorem gm_objInit (X : gm_X M d mc ms K) {idx x : Nat} (hd : decode M.2.1 pc = .ok (.invokespecial idx, 3)) (hw : Cond.methodLink M.1 idx Lib.objectInit ∈ wsL_law) (hd1 : 1 ≤ d) (k : gm_W K Qe (pc + 3) ls [] al cells slots) : gm_W K Qe pc ls [.ref x] al cells slots := by
  obtain ⟨p, l, e, R, s, m, sa, below, meth, c, D, cy, b, x0⟩ := K
  intro H locs lsC hS hP hz hL
  have hts := X.2.2.2.2.1
  obtain ⟨hr1, hr2, hr3, hr4⟩ := X.2.2.2.2.2.2.2.2.2.1
  refine W.objInit X.1 X.2.1 X.2.2.2.1 (hts _ hw) (hts _ wx_obj.1) (hts _ wx_obj.2) rfl (by obtain ⟨l, h1, -⟩ := hL; exact h1.1) rfl hd (by omega) (by show 2 * 0 + 0 + 12 ≤ R.locals; omega) ?_
  exact k H locs lsC hS hP hz hL
theorem gm_newa (X : gm_X M d mc ms K) {at_ : ArrayType} {t n q : Nat} {v : Int32} {ty : FieldType} {x : Gc} {al' : List Gc} (hd : decode M.2.1 pc = .ok (.newarray at_, 2)) (hty : newarray.typeOf at_ = ty) (hq : ([(0, .int), (1, .long), (2, .boolean)] : List (Nat × FieldType))[t]? = some (t, ty)) (hw : Cond.arrayClass ty ∈ wsL_law) (hn : nI n = v ∧ n < 2 ^ 20) (hx : x = .inr (t, n, fun _ => 0)) (hal : al ++ [x] = al') (hqq : q = al.length) (hr : cells + 1 ≤ mc ∧ slots + n ≤ ms) (k : gm_W K Qe (pc + 2) ls (.ref q :: st) al' (cells + 1) (slots + n)) : gm_W K Qe pc ls (.int v :: st) al cells slots := by
  obtain ⟨p, l, e, R, s, m, sa, below, meth, c, D, cy, b, x0⟩ := K
  obtain ⟨rfl, hn2⟩ := hn
  subst hty hx hal hqq
  intro H locs lsC hS hP hz hL
  have hts := X.2.2.2.2.1
  obtain ⟨hr1, hr2, hr3, hr4⟩ := X.2.2.2.2.2.2.2.2.2.1
  have hn31 : n < 2 ^ 31 := by omega
  have hbt : n * componentBytes (newarray.typeOf at_) ≤ 536870912 := by
    have : componentBytes (newarray.typeOf at_) ≤ 8 := by cases at_ <;> decide
    calc n * componentBytes (newarray.typeOf at_) ≤ n * 8 := Nat.mul_le_mul_left _ this
      _ ≤ 536870912 := by omega
  refine va_newaK X.1 X.2.1 (hts _ hw) rfl hd rfl (nI_pos hn31) (nI_clamp hn31) hbt (by omega) (by omega) rfl fun H1 cA e1 z1 o1 hAr hNm => ?_
  have hF := X.2.2.2.2.2.2.2.1
  have hca : cA = cy t ∧ gm_e cy b (.inr (t, n, fun _ => 0)) = .inl (cy t, n, if t = 1 then .inr (.inl (fun _ => 0)) else .inl (fun _ => 0)) ∧ defaultValue (newarray.typeOf at_) = if t = 1 then .long 0 else .int 0 := by
    match t, hq with
    | 0, hq =>
      have h2 : (0, FieldType.int) = (0, newarray.typeOf at_) := Option.some.inj hq
      have h3 : FieldType.int = newarray.typeOf at_ := (Prod.mk.inj h2).2
      have h4 := (hF.2 0 (cy 0, .int) rfl).2
      rw [← h3] at hNm ⊢
      exact ⟨Option.some.inj (hNm.symm.trans h4), rfl, rfl⟩
    | 1, hq =>
      have h2 : (1, FieldType.long) = (1, newarray.typeOf at_) := Option.some.inj hq
      have h3 : FieldType.long = newarray.typeOf at_ := (Prod.mk.inj h2).2
      have h4 := (hF.2 1 (cy 1, .long) rfl).2
      rw [← h3] at hNm ⊢
      exact ⟨Option.some.inj (hNm.symm.trans h4), rfl, rfl⟩
    | 2, hq =>
      have h2 : (2, FieldType.boolean) = (2, newarray.typeOf at_) := Option.some.inj hq
      have h3 : FieldType.boolean = newarray.typeOf at_ := (Prod.mk.inj h2).2
      have h4 := (hF.2 2 (cy 2, .boolean) rfl).2
      rw [← h3] at hNm ⊢
      exact ⟨Option.some.inj (hNm.symm.trans h4), rfl, rfl⟩
    | t + 3, hq => cases hq
  have hk : ∀ (k : Nat) (x : Nat × va_E), (gm_w cy b al)[k]? = some x → H1[x.1]? = H[x.1]? := fun k x hx => o1 x.1 ((hP k x hx).lt)
  have hP1 : va_P D vwCl (gm_w cy b (al ++ [.inr (t, n, fun _ => 0)])) H1 := by
    rw [← gm_push]
    refine (hP.kept hk).app (fun k x hx => ?_)
    have hz0 : k < 1 := (List.getElem?_eq_some_iff.mp hx).1
    rw [show k = 0 by omega] at hx
    cases hx
    rw [hca.2.1]
    show H1[b + al.length]? = some (vp_cell (cy t) _)
    rw [← hz, e1, hca.1, hca.2.2]
    by_cases ht : t = 1
    · simp [ht, vp_cell]
    · simp [ht, vp_cell]
  have := k H1 locs lsC ⟨Nat.le_trans hS.1 (by omega), fun x h1 h2 => (o1 x (Nat.lt_of_lt_of_le h1 hS.1)).trans (hS.2.1 x h1 h2), hS.2.2⟩ hP1 (by simp; omega) hL
  have e2 : (Value.ref H.size :: st.map (gm_v b)) = (Value.ref al.length :: st).map (gm_v b) := by simp [gm_v, hz]
  show W p l e R s m sa below meth c H1 locs (cells + 1) (slots + n) Qe (F0 m (pc + 2) lsC (Value.ref H.size :: st.map (gm_v b)))
  rw [e2]
  exact this
theorem gm_new (X : gm_X M d mc ms K) {idx ci N q : Nat} {C : String} {T : u_T} {ty : Nat → FieldType} {fs : List Value} {al' : List Gc} (hd : decode M.2.1 pc = .ok (.new idx, 3)) (hc : vwCl[ci]? = some (C, T, N)) (hin : ∀ w ∈ u_ws C T N, w ∈ wsL_law) (hty : ∀ k, k < N → parseFieldDescriptor (T k).2.2.1 = some (ty k)) (hw : Cond.classLink M.1 idx C ∈ wsL_law ∧ Cond.instantiable C N ∈ wsL_law ∧ Cond.initialized C ∈ wsL_law) (hfs : ∀ j, j < N → defaultValue (ty j) = vp_V fs j) (hfr : ∀ b, fs.map (gm_v b) = fs) (hal : al ++ [.inl (ci, fs)] = al') (hqq : q = al.length) (hr : cells + 1 ≤ mc ∧ slots + N ≤ ms) (k : gm_W K Qe (pc + 3) ls (.ref q :: st) al' (cells + 1) (slots + N)) : gm_W K Qe pc ls st al cells slots := by
  obtain ⟨p, l, e, R, s, m, sa, below, meth, c, D, cy, b, x0⟩ := K
  subst hal hqq
  intro H locs lsC hS hP hz hL
  have hts := X.2.2.2.2.1
  obtain ⟨hr1, hr2, hr3, hr4⟩ := X.2.2.2.2.2.2.2.2.2.1
  have hF := X.2.2.2.2.2.2.2.1
  have hKn := hF.1 ci _ hc
  refine W.newcK X.1 X.2.1 X.2.2.2.1 (hts _ hw.1) (hts _ hw.2.1) (hts _ hw.2.2) rfl hd (by omega) (by omega) hKn.2.1 rfl fun H1 kC hkC e1 z1 o1 => ?_
  have hk : ∀ (k : Nat) (x : Nat × va_E), (gm_w cy b al)[k]? = some x → H1[x.1]? = H[x.1]? := fun k x hx => o1 x.1 ((hP k x hx).lt)
  have hP1 : va_P D vwCl (gm_w cy b (al ++ [.inl (ci, fs)])) H1 := by
    rw [← gm_push]
    refine (hP.kept hk).app (fun k x hx => ?_)
    have hz0 : k < 1 := (List.getElem?_eq_some_iff.mp hx).1
    rw [show k = 0 by omega] at hx
    cases hx
    rw [← hz]
    show va_at D vwCl (H.size, .inr (ci, fs.map (gm_v b))) H1
    rw [hfr b]
    exact ⟨_, hc, (u_born ty hts hin hKn hkC e1 hty).to hfs⟩
  have := k H1 locs lsC ⟨Nat.le_trans hS.1 (by omega), fun x h1 h2 => (o1 x (Nat.lt_of_lt_of_le h1 hS.1)).trans (hS.2.1 x h1 h2), hS.2.2⟩ hP1 (by simp; omega) hL
  have e2 : (Value.ref H.size :: st.map (gm_v b)) = (Value.ref al.length :: st).map (gm_v b) := by simp [gm_v, hz]
  show W p l e R s m sa below meth c H1 locs (cells + 1) (slots + N) Qe (F0 m (pc + 3) lsC (Value.ref H.size :: st.map (gm_v b)))
  rw [e2]
  exact this
/-- a store of a field: a final one (in a constructor of its class) or not -/
theorem gm_put (X : gm_X M d mc ms K) {idx ci j o : Nat} {fs fs' : List Value} {v : Value} {ft : FieldType} {C : String} {T : u_T} {N : Nat} {ty : Nat → FieldType} {al' : List Gc} (hd : decode M.2.1 pc = .ok (.putfield idx, 3)) (hrn : M.2.2.2 = none) (hc : vwCl[ci]? = some (C, T, N)) (hj : j < N) (hin : ∀ w ∈ u_ws C T N, w ∈ wsL_law) (hw : Cond.fieldLink M.1 idx (T j).1 (T j).2.1 (T j).2.2.1 ∈ wsL_law) (hty : ∀ k, k < N → parseFieldDescriptor (T k).2.2.1 = some (ty k)) (hnm : ∀ a, a < N → ∀ b, b < N → a ≠ b → (T a).2.1 ≠ (T b).2.1) (hft : ty j = ft) (hfin : (T j).2.2.2 = false ∨ ((T j).2.2.2 = true ∧ (T j).1 = M.1)) (hv : ∀ b, narrow ft (gm_v b v) = gm_v b v ∧ fits ft (gm_v b v) = true) (ho : al[o]? = some (.inl (ci, fs))) (hjl : j < fs.length) (hfs : fs.set j v = fs') (hal : al.set o (.inl (ci, fs')) = al') (k : gm_W K Qe (pc + 3) ls st al' cells slots) : gm_W K Qe pc ls (v :: .ref o :: st) al cells slots := by
  obtain ⟨p, l, e, R, s, m, sa, below, meth, c, D, cy, b, x0⟩ := K
  subst hfs hal hft
  intro H locs lsC hS hP hz hL
  have hts := X.2.2.2.2.1
  have hF := X.2.2.2.2.2.2.2.1
  have hol := (List.getElem?_eq_some_iff.mp ho).1
  have hA : ∀ q, b ≤ q → gm_A b q := fun q h => h
  have hfin2 : ∀ (H1 : Heap) (locs1 : List Loc), va_P D vwCl ((gm_w cy b al).set o (b + o, .inr (ci, (fs.map (gm_v b)).set j (gm_v b v)))) H1 → va_S (gm_A b) s.heap H1 locs1 → H1.size = H.size → W p l e R s m sa below meth c H1 locs1 cells slots Qe (F0 m (pc + 3) lsC (st.map (gm_v b))) := by
    intro H1 locs1 hP1 hS1 hz1
    rw [gm_set (x := .inl (ci, fs.set j v)) hol (by show _ = Sum.inr (ci, (fs.set j v).map (gm_v b)); rw [List.map_set])] at hP1
    exact k H1 locs1 lsC hS1 hP1 (by simp; omega) hL
  have hget : (gm_w cy b al)[o]? = some (b + o, .inr (ci, fs.map (gm_v b))) := gm_get ho
  have hap := va_apart (own := M.1) hts hin ty hty hnm hF hc
  obtain ⟨r, h1, cell, q1, q2, q3, q4⟩ := hP o _ hget
  have hr : r = (C, T, N) := Option.some.inj (h1.symm.trans hc)
  subst hr
  obtain ⟨hSl, hfc, kC, hkC, hkind⟩ := hF.1 ci _ hc
  obtain ⟨cf, kf, fi, f, hi, hsl⟩ := hSl j hj
  have hst := (u_facts hfc hkC (u_lays hts hin hj) hi).1
  have hlay := hts _ (hin _ (u_in_lay hj))
  unfold u_lay at hlay
  rcases hfin with hfn | ⟨hfn, hdecl⟩
  · rw [if_neg (by rw [hfn]; decide)] at hlay
    have h6 := u_store hfc hkC hkind hlay hi (hty j hj) (hv b).1 (hv b).2
    refine W.putK X.1 X.2.1 (f := f) ⟨X.2.2.2.1, hts _ hw, ⟨_, _, _, hi⟩, hst⟩ (by rw [q2]; exact h6) q1 q3 (by rw [hsl]; exact k2_hasslot (q4 j hj)) rfl rfl hd fun H' e1 e2 e3 => ?_
    rw [hsl] at e1 ⊢
    refine hfin2 H' _ (hP.set (gm_D hA) hget ⟨_, hc, t_OB.to (V := updV (vp_V (fs.map (gm_v b))) j (gm_v b v)) ⟨_, e1, q2, q3, t_set q4 hap hj (gm_v b v)⟩ (fun i _ => vp_updV_set (by simp [hjl]) (gm_v b v) i)⟩ e3) (hS.put e2 e3 (show b ≤ b + o by omega)) e2
  · rw [if_pos hfn] at hlay
    have hcf : m.cls = cf := by
      obtain ⟨_, _, c', _, _, _, -, -, hf', -, -, -, hown2, -⟩ := Cond.laysFinal_spec hlay
      have e1 : c' = cf := by have := hi.symm.trans hf'; simp at this; exact this.1.symm
      rw [hdecl] at hown2
      rw [← e1]; exact Option.some.inj (X.2.2.2.1.symm.trans hown2)
    have h6 := u_fits hfc hkC hkind (Or.inr hlay) hi (hty j hj) (hv b).1 (hv b).2
    refine W.putFinK X.1 X.2.1 X.2.2.2.1 (hts _ hw) hi hst hcf (X.2.2.2.2.2.2.2.2.2.2 hrn) (by rw [q2]; exact h6) q1 q3 (by rw [hsl]; exact k2_hasslot (q4 j hj)) rfl rfl hd fun H' e1 e2 e3 => ?_
    rw [hsl] at e1 ⊢
    refine hfin2 H' _ (hP.set (gm_D hA) hget ⟨_, hc, t_OB.to (V := updV (vp_V (fs.map (gm_v b))) j (gm_v b v)) ⟨_, e1, q2, q3, t_set q4 hap hj (gm_v b v)⟩ (fun i _ => vp_updV_set (by simp [hjl]) (gm_v b v) i)⟩ e3) (hS.put e2 e3 (show b ≤ b + o by omega)) e2
theorem gm_iast (X : gm_X M d mc ms K) {o n i : Nat} {x iv : Int32} {f f' : Nat → Int32} {al' : List Gc} (hd : decode M.2.1 pc = .ok (.iastore, 1)) (ho : al[o]? = some (.inr (0, n, f))) (hi : iv.toNatClampNeg = i) (hin : inb iv n = true) (hf : upd f i x = f') (hal : al.set o (.inr (0, n, f')) = al') (k : gm_W K Qe (pc + 1) ls st al' cells slots) : gm_W K Qe pc ls (.int x :: .int iv :: .ref o :: st) al cells slots := by
  obtain ⟨p, l, e, R, s, m, sa, below, meth, c, D, cy, b, x0⟩ := K
  subst hf hal hi
  intro H locs lsC hS hP hz hL
  have hA : ∀ q, b ≤ q → gm_A b q := fun q h => h
  have hF := X.2.2.2.2.2.2.2.1
  have hol := (List.getElem?_eq_some_iff.mp ho).1
  have hget : (gm_w cy b al)[o]? = some (b + o, .inl (cy 0, n, .inl f)) := gm_get ho
  refine W.iast X.1 X.2.1 (hP o _ hget) ((hF.2 0 _ rfl).1 n (fun j => .int (f j))) (fun q => by cases q) (by show ¬ (iv < 0 ∨ (arrV _ _ _).slots.size ≤ _); rw [arrV_size]; exact inb_in hin) rfl rfl hd fun H1 e1 z oq => ?_
  have hP1 := hP.set (e := .inl (cy 0, n, .inl (upd f iv.toNatClampNeg x))) (H1 := H1) (gm_D (A := gm_A b) hA) hget (by
    show H1[b + o]? = some (vp_cell _ _)
    rw [e1]
    rw [vp_cell_i, vp_cell_i, arrV_store]
    congr 2
    funext q
    by_cases hq : q = iv.toNatClampNeg
    · subst hq
      simp [updV, upd]
    · simp [updV, upd, hq]) oq
  rw [gm_set (cy := cy) (b := b) (e := .inl (cy 0, n, .inl (upd f iv.toNatClampNeg x))) (x := .inr (0, n, upd f iv.toNatClampNeg x)) hol rfl] at hP1
  exact k H1 _ lsC (hS.put z oq (show b ≤ b + o by omega)) hP1 (by simp; omega) hL
theorem gm_vret (X : gm_X M d mc ms K) (hd : decode M.2.1 pc = .ok (.return_, 1)) (hr : M.2.2.2 = none) : gm_W K (gm_E al cells slots K) pc ls [] al cells slots := by
  obtain ⟨p, l, e, R, s, m, sa, below, meth, c, D, cy, b, x0⟩ := K
  intro H locs lsC hS hP hz hL
  exact W.vret X.1 X.2.1 (X.2.2.2.2.2.1.trans hr) (fun t ht hW => ⟨rfl, by rw [ht]; exact hP, by rw [ht]; exact hz, hS.F ht⟩) hS.2.2 hd X.2.2.2.2.2.2.1
theorem gm_calli (X : gm_X M d mc ms K) {d' idx k mc' ms' : Nat} {y : MethodName} {M' : Mi} {al' : List Gc} (hd : decode M.2.1 pc = .ok (.invokespecial idx, 3)) (hw : am_cw M.1 idx y M' 0 ∧ Cond.instanceMethod y ∈ wsL_law ∧ y.name = "<init>" ∧ M'.2.2.2 = none) (hC : ∀ (l : Launch) (D : va_G) (cy : Nat → ClassId) (b : Nat), gm_Ct l D cy b d' y M' [.ref k] al al' mc' ms') (hdd : d' + 1 ≤ d) (hsm : (st.map fun v => v.category).sum ≤ 8) (hr : cells + mc' ≤ mc ∧ slots + ms' ≤ ms) (kk : gm_W K Qe (pc + 3) ls st al' (cells + mc') (slots + ms')) : gm_W K Qe pc ls (.ref k :: st) al cells slots := by
  obtain ⟨p, l, e, R, s, m, sa, below, meth, c, D, cy, b, x0⟩ := K
  intro H locs lsC hS hP hz hL
  obtain ⟨hx, hb, hml, hown, hts, -, -, hF, hbz, ⟨hr1, hr2, hr3, hr4⟩, hnm⟩ := X
  obtain ⟨⟨w1, w2, w3, w4, w5⟩, w6, w7, w8⟩ := hw
  have hls : lsC.size = M.2.2.1 := by
    obtain ⟨l, h1, -⟩ := hL
    rw [← hml]
    exact h1.1
  have hsum : ((st.map (gm_v b)).map fun v => v.category).sum = (st.map fun v => v.category).sum := by
    rw [List.map_map]
    congr 1
    exact List.map_congr_left fun v _ => gm_v_cat b v
  have w3' : Cond.code y M'.2.1 M'.2.2.1 none ∈ wsL_law := w8 ▸ w3
  have hrun := va_runI (Qc := gm_Qc D cy b al') (H := H) (locs := locs) (cells := cells) (slots := slots) (As := []) (rest := st.map (gm_v b)) (b := b + k) (cc := M.2.1) (nL := M.2.2.1) (own := M.1) (g := F0 m pc lsC (.ref (b + k) :: st.map (gm_v b))) (below := below) (meth := meth) (e := e) (ws := am_ws y M') ⟨hx, hb, hml, hown, hts⟩ (hC l D cy b)
    ⟨callB_of (bytes := M'.2.1) (maxL := M'.2.2.1) (ret := none) (ws' := wsL_law) 0 hts (am_good w3) (by unfold am_ws; rw [w8]) rfl rfl (hts _ w2) (hts _ w1) w5 ⟨by show d' + 1 ≤ R.frames; omega, by show 8 + (M'.2.2.1 + 11) + 40 * d' ≤ R.locals; omega⟩, w7, hts _ w6⟩
    ⟨gm_blind, fun U hU hW => ⟨rfl, by rw [hU]; exact hP, va_K.moved hW.alike hF, by rw [hU]; exact hz⟩⟩ rfl rfl hls rfl (by rw [hsum]; show 2 * 0 + _ ≤ 8; omega) hd ⟨by omega, by omega⟩
  intro T hT X
  obtain ⟨v, st₀, t, T', L, h0, X', hL', e1, e2, ⟨hv, hP1, hz1, hfz, hfk⟩, stp⟩ := hrun T hT X
  cases hv
  rw [h0] at hfz hfk
  obtain ⟨t2, a1, b1⟩ := kk T'.heap (locs ++ L) lsC ⟨Nat.le_trans hS.1 (by rw [e1]; exact hfz), fun q h1 h2 => by rw [e1, hfk q (Nat.lt_of_lt_of_le h1 hS.1) h2]; exact hS.2.1 q h1 h2, fun q hq => by
      rcases List.mem_append.mp hq with h | h
      · exact hS.2.2 q h
      · exact hL' q h⟩ (by rw [e1]; exact hP1) (by rw [e1]; exact hz1) hL T' rfl X'
  exact ⟨t2, stp t2 a1, b1⟩
theorem gm_astore_n (X : gm_X M d mc ms K) {n : Fin 4} {i x : Nat} {ls' : List (Option Value)} (hd : decode M.2.1 pc = .ok (.astore_n n, 1)) (hi : (n : Nat) = i) (h0 : i ≠ 0) (hn : i < M.2.2.1) (hok : am_ok ls i = true) (hls : ls.set i (some (.ref x)) = ls') (k : gm_W K Qe (pc + 1) ls' st al cells slots) : gm_W K Qe pc ls (.ref x :: st) al cells slots := by
  obtain ⟨p, l, e, R, s, m, sa, below, meth, c, D, cy, b, x0⟩ := K
  subst hls
  intro H locs lsC hS hP hz hL
  obtain ⟨l, h1, h2, h3, h4⟩ := hL
  exact lv_astore_n X.1 X.2.1 hd hi h1 (by rw [X.2.2.1]; exact hn) rfl (fun ls' h' => k H locs ls' hS hP hz (gm_L.set1 (v := .ref x) h0 h4 h3 hok h2 h'))
theorem gm_istore_n (X : gm_X M d mc ms K) {n : Fin 4} {i : Nat} {x : Int32} {ls' : List (Option Value)} (hd : decode M.2.1 pc = .ok (.istore_n n, 1)) (hi : (n : Nat) = i) (h0 : i ≠ 0) (hn : i < M.2.2.1) (hok : am_ok ls i = true) (hls : ls.set i (some (.int x)) = ls') (k : gm_W K Qe (pc + 1) ls' st al cells slots) : gm_W K Qe pc ls (.int x :: st) al cells slots := by
  obtain ⟨p, l, e, R, s, m, sa, below, meth, c, D, cy, b, x0⟩ := K
  subst hls
  intro H locs lsC hS hP hz hL
  obtain ⟨l, h1, h2, h3, h4⟩ := hL
  exact lv_istore_n X.1 X.2.1 hd hi h1 (by rw [X.2.2.1]; exact hn) rfl (fun ls' h' => k H locs ls' hS hP hz (gm_L.set1 (v := .int x) h0 h4 h3 hok h2 h'))
end GM
