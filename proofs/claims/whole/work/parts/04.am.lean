/-! THE ABSTRACT MACHINE: the system's cells stand at fixed places (ids); a state is what they hold; one row an instruction -/
/-- launch, where classes and their slots are, the classes of int[], long[], boolean[], the address of an id, the first address that is ours -/
abbrev Cx : Type := Launch × va_G × (Nat → ClassId) × (Nat → Nat) × Nat
/-- what the cells hold: a field's number by object and slot; an int or boolean array's by array and place; a long array's -/
abbrev Sg : Type := (Nat → Nat → Int32) × (Nat → Nat → Int32) × (Nat → Nat → Int64)
/-- a method: its class, its bytes, its locals, what it returns -/
abbrev Mi : Type := String × ByteArray × Nat × Option FieldType
/-- where a walk stands -/
abbrev Kx : Type := Program × Env × Room × State × MethodId × Array Value × List Frame × Method × Code × Nat × Nat
abbrev Sh : Type := (Nat × List (Option Nat)) ⊕ (Nat × Nat)
def am_ad (G : Cx) : Nat → Nat := G.2.2.2.1
def am_A (G : Cx) : Nat → Prop := fun q => G.2.2.2.2 ≤ q
def am_v (G : Cx) : Value → Value
  | .ref k => .ref (am_ad G k)
  | v => v
theorem am_v_cat (G : Cx) (v : Value) : (am_v G v).category = v.category := by cases v <;> rfl
def rg (σ : Sg) (k j : Nat) : Int32 := σ.1 k j
def ar (σ : Sg) (k j : Nat) : Int32 := σ.2.1 k j
def al (σ : Sg) (k j : Nat) : Int64 := σ.2.2 k j
def up2 {α : Type} (f : Nat → Nat → α) (k j : Nat) (v : α) : Nat → Nat → α := fun a b => if a = k ∧ b = j then v else f a b
def uprow {α : Type} (f : Nat → Nat → α) (k : Nat) (g : Nat → α) : Nat → Nat → α := fun a => if a = k then g else f a
def srg (σ : Sg) (k j : Nat) (v : Int32) : Sg := (up2 σ.1 k j v, σ.2)
def sar (σ : Sg) (k j : Nat) (v : Int32) : Sg := (σ.1, up2 σ.2.1 k j v, σ.2.2)
def sal (σ : Sg) (k j : Nat) (v : Int64) : Sg := (σ.1, σ.2.1, up2 σ.2.2 k j v)
def srow (σ : Sg) (k : Nat) (g : Nat → Int32) : Sg := (σ.1, uprow σ.2.1 k g, σ.2.2)
def srowl (σ : Sg) (k : Nat) (g : Nat → Int64) : Sg := (σ.1, σ.2.1, uprow σ.2.2 k g)
/-- a place in range -/
def inb (i : Int32) (n : Nat) : Bool := decide (¬ (i < 0 ∨ n ≤ i.toNatClampNeg))
theorem inb_in {i : Int32} {n : Nat} (h : inb i n = true) : vp_in i n := (of_decide_eq_true (show decide (¬ (i < 0 ∨ n ≤ i.toNatClampNeg)) = true from h) : ¬ (i < 0 ∨ n ≤ i.toNatClampNeg))
def gd {α : Type} (b : Bool) (k : Option α) : Option α := if b = true then k else none
def nm {α β : Type} (v : α) (k : α → β) : β := k v
def bd {α β : Type} (o : Option α) (k : α → Option β) : Option β := match o with
  | none => none
  | some x => k x
theorem gd_some {α : Type} {b : Bool} {k : Option α} {r : α} (h : gd b k = some r) : b = true ∧ k = some r := by
  unfold gd at h
  split at h
  next hb => exact ⟨hb, h⟩
  next => cases h
theorem bd_some {α β : Type} {o : Option α} {k : α → Option β} {r : β} (h : bd o k = some r) : ∃ x, o = some x ∧ k x = some r := by
  cases o with
  | none => cases h
  | some x => exact ⟨x, rfl, h⟩
theorem if_t {α : Type} {c : Prop} [Decidable c] {a b r : α} (h : (if c then a else b) = r) (hc : c) : a = r := by rw [if_pos hc] at h; exact h
theorem if_f {α : Type} {c : Prop} [Decidable c] {a b r : α} (h : (if c then a else b) = r) (hc : ¬ c) : b = r := by rw [if_neg hc] at h; exact h
/-- the shape: objects (class, fields: none a number, some k the cell k), arrays (0 int, 1 long, 2 boolean; length) -/
def am_shp : List Sh := [.inl (6, [some 1, some 2, none, some 6, some 7, some 8, some 9]), .inl (4, [none, some 10, some 11, some 12, some 13, some 14, none, none, some 15, none, some 3, none, some 16, some 17]), .inl (4, [none, some 18, some 19, some 20, some 21, some 22, none, none, some 23, none, some 4, none, some 24, some 25]), .inl (5, [none, some 26, some 27, some 28, none, some 29, some 30]), .inl (5, [none, some 31, some 32, some 33, none, some 34, some 35]), .inl (5, [none, some 36, some 37, some 38, none, some 39, some 40]), .inl (2, [some 5, some 41, none, none, none]), .inl (1, [none, some 42, some 43, some 44, some 45, some 46, none, some 47, some 48, some 49, some 50, some 51, some 52, some 53]), .inl (3, [none, some 54, some 55, some 56, some 57, some 58]), .inl (0, [none, some 59, none, none, none]), .inr (0, 7), .inr (0, 7), .inr (0, 7), .inr (0, 7), .inr (0, 7), .inr (0, 100), .inr (0, 7), .inr (0, 7), .inr (0, 7), .inr (0, 7), .inr (0, 7), .inr (0, 7), .inr (0, 7), .inr (0, 100), .inr (0, 7), .inr (0, 7), .inr (0, 10), .inr (0, 10), .inr (0, 11), .inr (0, 100), .inr (0, 5), .inr (0, 10), .inr (0, 10), .inr (0, 11), .inr (0, 100), .inr (0, 5), .inr (0, 10), .inr (0, 10), .inr (0, 11), .inr (0, 100), .inr (0, 5), .inr (0, 100), .inr (0, 7), .inr (0, 7), .inr (0, 7), .inr (0, 7), .inr (0, 7), .inr (0, 140), .inr (0, 140), .inr (0, 140), .inr (0, 140), .inr (0, 8), .inr (0, 8), .inr (0, 8), .inr (0, 7), .inr (0, 49), .inr (0, 896), .inr (1, 7), .inr (1, 7), .inr (0, 20), .inl (7, [none, some 61, some 62, none, none, none, none, none, none, some 63, some 64, none, none, none, some 65, some 66, some 67, some 68, some 69, none, some 70, some 71, some 72, some 73, some 74, some 75, some 76, some 77, some 78, some 79, none, some 80, some 81, some 82, none, none, none, none]), .inr (0, 906), .inr (0, 906), .inr (0, 5), .inr (2, 64), .inr (0, 70), .inr (0, 70), .inr (0, 70), .inr (0, 70), .inr (0, 70), .inr (0, 8), .inr (0, 8), .inr (0, 8), .inr (0, 7), .inr (0, 7), .inr (0, 7), .inr (2, 49), .inr (0, 49), .inr (0, 7), .inr (0, 7), .inr (1, 7), .inr (1, 7), .inr (0, 20)]
def am_N : Nat := 83
def am_fv (G : Cx) (f : Nat → Int32) (fs : List (Option Nat)) (j : Nat) : Value := match fs[j]? with
  | some (some i) => .ref (am_ad G i)
  | _ => .int (f j)
def am_e (G : Cx) (σ : Sg) (k : Nat) : va_E := match am_shp[k]? with
  | some (.inl (ci, fs)) => .inr (ci, (List.range fs.length).map (am_fv G (σ.1 k) fs))
  | some (.inr (0, n)) => .inl (G.2.2.1 0, n, .inl (σ.2.1 k))
  | some (.inr (1, n)) => .inl (G.2.2.1 1, n, .inr (.inl (σ.2.2 k)))
  | some (.inr (_, n)) => .inl (G.2.2.1 2, n, .inl (σ.2.1 k))
  | none => .inr (0, [])
def am_w (G : Cx) (σ : Sg) : va_W := (List.range am_N).map (fun k => (am_ad G k, am_e G σ k))
theorem am_get {G : Cx} {σ : Sg} {k : Nat} (h : k < am_N) : (am_w G σ)[k]? = some (am_ad G k, am_e G σ k) := by
  unfold am_w
  rw [List.getElem?_map, List.getElem?_range h]
  rfl
theorem am_set {G : Cx} {σ σ' : Sg} {k : Nat} (h : k < am_N) (ho : ∀ j, j ≠ k → am_e G σ' j = am_e G σ j) {e : va_E} (he : e = am_e G σ' k) : (am_w G σ).set k (am_ad G k, e) = am_w G σ' := by
  subst he
  apply List.ext_getElem?
  intro j
  by_cases hj : j = k
  · subst hj
    rw [List.getElem?_set_self (by unfold am_w; simp; exact h), am_get h]
  · rw [List.getElem?_set_ne (Ne.symm hj)]
    by_cases hl : j < am_N
    · rw [am_get hl, am_get hl, ho j hj]
    · unfold am_w
      rw [List.getElem?_map, List.getElem?_map, List.getElem?_eq_none (by simp; omega)]
      rfl
theorem am_e_congr {G : Cx} {σ σ' : Sg} {j : Nat} (h1 : σ'.1 j = σ.1 j) (h2 : σ'.2.1 j = σ.2.1 j) (h3 : σ'.2.2 j = σ.2.2 j) : am_e G σ' j = am_e G σ j := by
  unfold am_e
  rw [h1, h2, h3]
theorem up2_ne {α : Type} {f : Nat → Nat → α} {k j a : Nat} {v : α} (h : a ≠ k) : up2 f k j v a = f a := by
  funext b
  simp [up2, h]
theorem up2_self {α : Type} {f : Nat → Nat → α} {k j : Nat} {v : α} : up2 f k j v k = fun b => if b = j then v else f k b := by
  funext b
  simp [up2]
theorem uprow_ne {α : Type} {f : Nat → Nat → α} {k a : Nat} {g : Nat → α} (h : a ≠ k) : uprow f k g a = f a := if_neg h
theorem uprow_self {α : Type} {f : Nat → Nat → α} {k : Nat} {g : Nat → α} : uprow f k g k = g := if_pos rfl
def am_t (G : Cx) : List (ClassId × FieldType) := [(G.2.2.1 0, .int), (G.2.2.1 1, .long), (G.2.2.1 2, .boolean)]
/-- constant arrays: ids 90, 91; texts: ids 100 + i, their bytes: 120 + i -/
def am_above : Nat → Int32 := fun j => ([-1, 0, 0, 0, 1, 2, 3] : List Int32).getD j 0
def am_bodies : Nat → Int32 := fun j => ([1, 2, 3, 11, 0, 0, 0, 21, 0, 0, 0, 31, 0, 0, 41, 51, 0, 0, 0, 61, 0] : List Int32).getD j 0
def am_byt : List (List Int32) := [[105, 110, 101], [116, 101, 112], [108, 108, 111, 119], [115, 107, 117, 100, 108], [60, 61, 62], [102, 105, 110, 101, 32], [115, 116, 101, 112, 32], [97, 108, 108, 111, 119, 32]]
def am_len : List Nat := [3, 3, 4, 5, 3, 5, 5, 6]
def am_txt : List (String × Nat × String × Nat) := [("EvenTally$Reader", 52, "ine", 0), ("EvenTally$Reader", 58, "tep", 1), ("EvenTally$Reader", 60, "llow", 2), ("EvenTally$Reader", 95, "skudl", 3), ("EvenTally$Reader", 101, "<=>", 4), ("EvenTallyModel", 148, "fine ", 5), ("EvenTallyModel", 154, "step ", 6), ("EvenTallyModel", 156, "allow ", 7), ("EvenTallyModel", 130, "skudl", 3), ("EvenTallyModel", 136, "<=>", 4)]
/-- what is given and stays: classes, constants, texts -/
def am_F (G : Cx) (U : State) (H : Heap) : Prop :=
  va_K G.2.1 vwCl (am_t G) U ∧ va_Z "EvenTally" "ABOVE" "[I" (.ref (am_ad G 90)) (am_A G) U H ∧ va_Z "EvenTally$Actor" "BODIES" "[I" (.ref (am_ad G 91)) (am_A G) U H ∧
  va_T .int (am_ad G 90) 7 (fun j => .int (am_above j)) (am_A G) U H ∧ va_T .int (am_ad G 91) 21 (fun j => .int (am_bodies j)) (am_A G) U H ∧
  vk_S 8 am_len am_byt (fun i => am_ad G (100 + i)) (fun i => am_ad G (120 + i)) (am_A G) U H ∧ (∀ q ∈ am_txt, vk_R q.1 q.2.1 q.2.2.1 (am_ad G (100 + q.2.2.2)) U) ∧
  va_Nw (.methodLinkNest "EvenTally$State" 77 ⟨"EvenTally", "isUnder", "(II)Z"⟩ "EvenTally") U ∧ va_Nw (.fieldLinkNest "EvenTally$Actor" 41 "EvenTally" "ABOVE" "[I" "EvenTally") U ∧
  va_Z "java/lang/String" "COMPACT_STRINGS" "Z" (.int 1) (am_A G) U H ∧ (va_Z "jdk/internal/util/Preconditions" "SIOOBE_FORMATTER" "Ljava/util/function/BiFunction;" .null (am_A G) U H ∨ va_Z "jdk/internal/util/Preconditions" "SIOOBE_FORMATTER" "Ljava/util/function/BiFunction;" (.ref (am_ad G 95)) (am_A G) U H)
theorem am_F.kept {G : Cx} {U : State} {H H1 : Heap} (h : am_F G U H) (hq : ∀ a : Nat, a < H.size → ¬ am_A G a → H1[a]? = H[a]?) : am_F G U H1 := by
  obtain ⟨a1, a2, a3, a4, a5, a6, a7, a8, a9, a10, a11⟩ := h
  exact ⟨a1, a2.kept hq, a3.kept hq, a4.kept hq, a5.kept hq, a6.kept hq, a7, a8, a9, a10.kept hq, a11.imp (fun h => h.kept hq) (fun h => h.kept hq)⟩
theorem am_F.warm {G : Cx} {s U : State} {H : Heap} (hW : s.WarmedH U.vm) (h : am_F G s H) : am_F G U H := by
  obtain ⟨a1, a2, a3, a4, a5, a6, a7, a8, a9, a10, a11⟩ := h
  have hv := hW.alike
  exact ⟨va_K.moved hv a1, va_Z.moved hv a2, va_Z.moved hv a3, va_T.moved hv a4, va_T.moved hv a5, vk_S.moved hv a6, fun q hq => vk_R.warm hW (a7 q hq), va_Nw.warmM hW a8, va_Nw.warmF hW a9, va_Z.moved hv a10, a11.imp (va_Z.moved hv) (va_Z.moved hv)⟩
theorem am_F.same {G : Cx} {u U : State} {H : Heap} (hvm : U.vm = u.vm) (h : am_F G u H) : am_F G U H := by
  obtain ⟨a1, a2, a3, a4, a5, a6, a7, a8, a9, a10, a11⟩ := h
  have hv : u.vm.Alike U.vm := by rw [hvm]; exact Vm.Alike.refl _
  exact ⟨va_K.moved hv a1, va_Z.moved hv a2, va_Z.moved hv a3, va_T.moved hv a4, va_T.moved hv a5, vk_S.moved hv a6, fun q hq => vk_R.same hvm (a7 q hq), va_Nw.same rfl hvm.symm a8, va_Nw.same rfl hvm.symm a9, va_Z.moved hv a10, a11.imp (va_Z.moved hv) (va_Z.moved hv)⟩
/-- the addresses are apart, and ours -/
def am_G (G : Cx) : Prop := (∀ i j : Nat, i < am_N → j < am_N → am_ad G i = am_ad G j → i = j) ∧ ∀ i : Nat, i < am_N → am_A G (am_ad G i)
theorem am_D {G : Cx} {σ : Sg} (h : am_G G) : va_D (am_A G) (am_w G σ) := by
  have key : ∀ (i : Nat) (q : Nat × va_E), (am_w G σ)[i]? = some q → i < am_N ∧ q.1 = am_ad G i := by
    intro i q hq
    by_cases hl : i < am_N
    · rw [am_get hl] at hq
      cases hq
      exact ⟨hl, rfl⟩
    · unfold am_w at hq
      rw [List.getElem?_map, List.getElem?_eq_none (by simp; omega)] at hq
      cases hq
  refine ⟨fun i j p q hi hj hpq => ?_, fun k q hk => ?_⟩
  · obtain ⟨h1, h2⟩ := key i p hi
    obtain ⟨h3, h4⟩ := key j q hj
    exact h.1 i j h1 h3 (h2.symm.trans (hpq.trans h4))
  · obtain ⟨h1, h2⟩ := key k q hk
    rw [h2]
    exact h.2 k h1
/-! contracts -/
def am_Wd (G : Cx) (σ : Sg) (U : State) : Prop := va_P G.2.1 vwCl (am_w G σ) U.heap ∧ am_F G U U.heap ∧ G.2.2.2.2 ≤ U.heap.size
def am_Pc (G : Cx) (as : List Value) (σ : Sg) : Array Value → State → Prop := fun v U => v = (as.map (am_v G)).toArray ∧ am_Wd G σ U
def am_Qc (G : Cx) (Q : Option Value → Sg → Prop) : Array Value → State → Outcome → State → Prop := fun _ st oc t => (∃ (r : Option Value) (σ' : Sg), oc = .returned (r.map (am_v G)) ∧ Q r σ' ∧ va_P G.2.1 vwCl (am_w G σ') t.heap) ∧ va_F (am_A G) st t
def am_rm (d : Nat) : Room := { frames := d, cells := 0, slots := 0, locals := 40 * d }
def am_ws (y : MethodName) (M : Mi) : List Cond := .code y M.2.1 M.2.2.1 M.2.2.2 :: wsL_law
/-- y, called with these, from this state: it returns, and Q says what and into which state -/
def am_Ct (G : Cx) (d : Nat) (y : MethodName) (M : Mi) (as : List Value) (σ : Sg) (Q : Option Value → Sg → Prop) : Prop := Met G.1 y (am_ws y M) (am_rm d) (am_Pc G as σ) (am_Qc G Q) 0 0 (am_A G)
theorem am_blind {G : Cx} {as : List Value} {σ : Sg} : FrameBlind (am_Pc G as σ) := by
  intro a U g mk h
  exact ⟨h.1, h.2.1, h.2.2.1.same rfl, h.2.2.2⟩
/-- the locals: what is known of them by their places -/
def am_L (G : Cx) (lsC : Array Slot) (n : Nat) (ls : List (Option Value)) : Prop := ∃ l, lv_has lsC n l ∧ ∀ (i : Nat) (v : Value), ls[i]? = some (some v) → (i, am_v G v) ∈ l
def am_W (G : Cx) (K : Kx) (Qe : State → Prop) (pc : Nat) (ls : List (Option Value)) (st : List Value) (σ : Sg) : Prop := match K with
  | (p, e, R, s, m, args, below, meth, c, cells, slots) => ∀ (H : Heap) (locs : List Loc) (lsC : Array Slot), va_S (am_A G) s.heap H locs → va_P G.2.1 vwCl (am_w G σ) H → am_L G lsC c.maxLocals ls → W p G.1 e R s m args below meth c H locs cells slots Qe (F0 m pc lsC (st.map (am_v G)))
def am_X (G : Cx) (M : Mi) (d : Nat) (K : Kx) : Prop := match K with
  | (p, e, R, s, m, args, below, meth, c, cells, slots) => p.tables.exec = Jvm.exec ∧ c.code = M.2.1 ∧ c.maxLocals = M.2.2.1 ∧ s.vm.findClass M.1 = some m.cls ∧ (∀ w ∈ wsL_law, w.before args s = true) ∧ meth.sig.returnType = M.2.2.2 ∧ meth.locks = false ∧ am_F G s s.heap ∧ G.2.2.2.2 ≤ s.heap.size ∧ (d ≤ R.frames ∧ 40 * d ≤ R.locals ∧ cells ≤ R.cells ∧ slots ≤ R.slots) ∧ am_G G
def am_K (p : Program) (e : Env) (R : Room) (s : State) (m : MethodId) (args : Array Value) (below : List Frame) (meth : Method) (c : Code) (cells slots : Nat) : Kx := (p, e, R, s, m, args, below, meth, c, cells, slots)
/-- the end of a method of the system -/
def am_E (G : Cx) (Q : Option Value → Sg → Prop) (K : Kx) : State → Prop := match K with
  | (_, _, _, s, _, args, below, _, _, _, _) => MQ below (am_Qc G Q) args s 0 0 (am_A G)
def am_Wp (G : Cx) (M : Mi) (d : Nat) (Q : Option Value → Sg → Prop) (pc : Nat) (ls : List (Option Value)) (st : List Value) (σ : Sg) : Prop := ∀ K : Kx, K.2.2.2.2.2.2.2.2.2 = (0, 0) → am_X G M (d + 1) K → am_W G K (am_E G Q K) pc ls st σ
def am_en : List Value → List (Option Value)
  | [] => []
  | v :: vs => if v.category = 2 then some v :: none :: am_en vs else some v :: am_en vs
theorem am_en_args (G : Cx) : ∀ (vs : List Value) (k i : Nat) (v : Value), (am_en vs)[i]? = some (some v) → (k + i, am_v G v) ∈ lv_args k (vs.map (am_v G))
  | [], k, i, v, h => by simp [am_en] at h
  | w :: vs, k, i, v, h => by
    unfold am_en at h
    simp only [List.map_cons, lv_args, am_v_cat]
    by_cases hc : w.category = 2
    · rw [if_pos hc] at h ⊢
      match i, h with
      | 0, h => simp at h; subst h; simp
      | 1, h => simp at h
      | i + 2, h =>
        have := am_en_args G vs (k + 2) i v (by simpa using h)
        rw [show k + (i + 2) = k + 2 + i by omega]
        exact List.mem_cons_of_mem _ this
    · rw [if_neg hc] at h ⊢
      match i, h with
      | 0, h => simp at h; subst h; simp
      | i + 1, h =>
        have := am_en_args G vs (k + 1) i v (by simpa using h)
        rw [show k + (i + 1) = k + 1 + i by omega]
        exact List.mem_cons_of_mem _ this
theorem am_en_len (G : Cx) (vs : List Value) : (lg_sl (vs.map (am_v G))).length = (am_en vs).length := by
  induction vs with
  | nil => rfl
  | cons w vs ih =>
    unfold am_en
    simp only [lg_sl, List.map_cons, List.flatMap_cons, am_v_cat] at ih ⊢
    by_cases hc : w.category = 2
    · simp [hc, ih]
    · simp [hc, ih]
/-- a contract from its body's walk -/
theorem am_enter {G : Cx} {d : Nat} {y : MethodName} {M : Mi} {as : List Value} {σ : Sg} {Q : Option Value → Sg → Prop} (hG : am_G G) (hy : plainName y.cls = true) (hM : M.1 = y.cls) (hn : (am_en as).length ≤ M.2.2.1) (k : am_Wp G M d Q 0 (am_en as) [] σ) : am_Ct G (d + 1) y M as σ Q := by
  refine Met.ofW (cc := M.2.1) (maxL := M.2.2.1) (ret := M.2.2.2) hy rfl ?_
  intro p e s m args below meth c s₁ B hml hv
  obtain ⟨rfl, hP, hF, hz⟩ := hv
  have hts := atoms_spec (ws := am_ws y M) B.pre
  have hl := lv_entry (as.map (am_v G)) (n := M.2.2.1) (by rw [am_en_len]; exact hn)
  rw [lg_entry_eq]
  have hX : am_X G M (d + 1) (am_K p e (headSpec (am_ws y M) (am_rm (d + 1))).room s m (as.map (am_v G)).toArray below meth c 0 0) := ⟨B.exec, B.bytes, hml, by rw [hM]; exact findClass_of_methodNamed B.named, fun w hw => hts w (List.mem_cons_of_mem _ hw), B.returns, B.notSynchronized, hF, hz, ⟨Nat.le_refl _, Nat.le_refl _, Nat.zero_le _, Nat.zero_le _⟩, hG⟩
  exact k _ rfl hX s.heap [] _ va_S.rf hP (by rw [hml]; exact ⟨_, hl, fun i v h => by simpa using am_en_args G as 0 i v h⟩)
/-! rows -/
theorem am_L.at {G : Cx} {lsC : Array Slot} {n : Nat} {ls : List (Option Value)} (h : am_L G lsC n ls) {i : Nat} {v : Value} (hi : ls[i]? = some (some v)) : lsC[i]? = some (.val (am_v G v)) := by
  obtain ⟨l, h1, h2⟩ := h
  exact h1.2.2 _ (h2 i v hi)
def am_ok (ls : List (Option Value)) (i : Nat) : Bool := match i with
  | 0 => true
  | i + 1 => match ls[i]? with
    | some (some v) => v.category == 1
    | _ => true
theorem am_L.set1 {G : Cx} {ls' : Array Slot} {n : Nat} {ls : List (Option Value)} {l : List (Nat × Value)} {i : Nat} {v : Value} (hok : am_ok ls i = true) (h2 : ∀ (i : Nat) (v : Value), ls[i]? = some (some v) → (i, am_v G v) ∈ l) (h' : lv_has ls' n ((i, am_v G v) :: l.filter (fun q => !(q.1 == i) && !(q.1 + 1 == i && q.2.category == 2)))) : am_L G ls' n (ls.set i (some v)) := by
  refine ⟨_, h', fun j w hj => ?_⟩
  by_cases hij : j = i
  · subst hij
    by_cases hl : j < ls.length
    · rw [List.getElem?_set_self hl] at hj
      cases hj
      exact List.mem_cons_self
    · rw [List.getElem?_eq_none (by simp; omega)] at hj
      cases hj
  · rw [List.getElem?_set_ne (Ne.symm hij)] at hj
    refine List.mem_cons_of_mem _ (List.mem_filter.mpr ⟨h2 j w hj, ?_⟩)
    have : ¬ (j + 1 = i ∧ (am_v G w).category = 2) := by
      rintro ⟨e1, e2⟩
      subst e1
      simp only [am_ok, hj, beq_iff_eq] at hok
      rw [am_v_cat] at e2
      omega
    simp only [Bool.and_eq_true, Bool.not_eq_true', beq_eq_false_iff_ne, ne_eq, Bool.and_eq_false_iff]
    refine ⟨hij, ?_⟩
    by_cases e1 : j + 1 = i
    · exact Or.inr fun e2 => this ⟨e1, e2⟩
    · exact Or.inl e1
theorem am_L.set2 {G : Cx} {ls' : Array Slot} {n : Nat} {ls : List (Option Value)} {l : List (Nat × Value)} {i : Nat} {v : Value} (hok : am_ok ls i = true) (h2 : ∀ (i : Nat) (v : Value), ls[i]? = some (some v) → (i, am_v G v) ∈ l) (h' : lv_has ls' n ((i, am_v G v) :: l.filter (fun q => !(q.1 == i) && (!(q.1 == i + 1) && !(q.1 + 1 == i && q.2.category == 2))))) : am_L G ls' n ((ls.set i (some v)).set (i + 1) none) := by
  refine ⟨_, h', fun j w hj => ?_⟩
  by_cases hij1 : j = i + 1
  · subst hij1
    by_cases hl : i + 1 < ls.length
    · rw [List.getElem?_set_self (by simpa using hl)] at hj
      cases hj
    · rw [List.getElem?_eq_none (by simp; omega)] at hj
      cases hj
  rw [List.getElem?_set_ne (Ne.symm hij1)] at hj
  by_cases hij : j = i
  · subst hij
    by_cases hl : j < ls.length
    · rw [List.getElem?_set_self hl] at hj
      cases hj
      exact List.mem_cons_self
    · rw [List.getElem?_eq_none (by simp; omega)] at hj
      cases hj
  · rw [List.getElem?_set_ne (Ne.symm hij)] at hj
    refine List.mem_cons_of_mem _ (List.mem_filter.mpr ⟨h2 j w hj, ?_⟩)
    have : ¬ (j + 1 = i ∧ (am_v G w).category = 2) := by
      rintro ⟨e1, e2⟩
      subst e1
      simp only [am_ok, hj, beq_iff_eq] at hok
      rw [am_v_cat] at e2
      omega
    simp only [Bool.and_eq_true, Bool.not_eq_true', beq_eq_false_iff_ne, ne_eq, Bool.and_eq_false_iff]
    refine ⟨hij, hij1, ?_⟩
    by_cases e1 : j + 1 = i
    · exact Or.inr fun e2 => this ⟨e1, e2⟩
    · exact Or.inl e1
def am_le : List (Option Value) → List (Option Value) → Prop
  | [], _ => True
  | none :: t, [] => am_le t []
  | none :: t, _ :: t' => am_le t t'
  | some _ :: _, [] => False
  | some v :: t, x :: t' => x = some v ∧ am_le t t'
theorem am_le_at : ∀ (a b : List (Option Value)), am_le a b → ∀ (i : Nat) (v : Value), a[i]? = some (some v) → b[i]? = some (some v)
  | [], b, _, i, v, h => by simp at h
  | none :: t, [], h0, i, v, h => by
    match i, h with
    | 0, h => simp at h
    | i + 1, h =>
      have := am_le_at t [] h0 i v (by simpa using h)
      simp at this
  | none :: t, x :: t', h0, i, v, h => by
    match i, h with
    | 0, h => simp at h
    | i + 1, h => simpa using am_le_at t t' h0 i v (by simpa using h)
  | some w :: t, [], h0, i, v, h => by cases h0
  | some w :: t, x :: t', h0, i, v, h => by
    match i, h with
    | 0, h => simp at h; subst h; simp [h0.1]
    | i + 1, h => simpa using am_le_at t t' h0.2 i v (by simpa using h)
section AM
variable {G : Cx} {M : Mi} {d : Nat} {K : Kx} {Qe : State → Prop} {pc : Nat} {ls : List (Option Value)} {st : List Value} {σ : Sg}
/-- what is known of the locals may be forgotten; the place may be spelt otherwise -/
theorem am_jump {pc' : Nat} {ls' : List (Option Value)} (k : am_W G K Qe pc' ls' st σ) (hp : pc' = pc) (hl : am_le ls' ls) : am_W G K Qe pc ls st σ := by
  obtain ⟨p, e, R, s, m, args, below, meth, c, cells, slots⟩ := K
  subst hp
  intro H locs lsC hS hP hL
  obtain ⟨l, h1, h2⟩ := hL
  exact k H locs lsC hS hP ⟨l, h1, fun i v h => h2 i v (am_le_at _ _ hl i v h)⟩
theorem am_iadd (X : am_X G M d K) {a b : Int32} (hd : decode M.2.1 pc = .ok (.iadd, 1)) (k : am_W G K Qe (pc + 1) ls (.int (a + b) :: st) σ) : am_W G K Qe pc ls (.int b :: .int a :: st) σ := by
  obtain ⟨p, e, R, s, m, sa, below, meth, c, cells, slots⟩ := K
  intro H locs lsC hS hP hL
  exact lv_iadd X.1 X.2.1 hd (k H locs lsC hS hP hL)
theorem am_isub (X : am_X G M d K) {a b : Int32} (hd : decode M.2.1 pc = .ok (.isub, 1)) (k : am_W G K Qe (pc + 1) ls (.int (a - b) :: st) σ) : am_W G K Qe pc ls (.int b :: .int a :: st) σ := by
  obtain ⟨p, e, R, s, m, sa, below, meth, c, cells, slots⟩ := K
  intro H locs lsC hS hP hL
  exact lv_isub X.1 X.2.1 hd (k H locs lsC hS hP hL)
theorem am_imul (X : am_X G M d K) {a b : Int32} (hd : decode M.2.1 pc = .ok (.imul, 1)) (k : am_W G K Qe (pc + 1) ls (.int (a * b) :: st) σ) : am_W G K Qe pc ls (.int b :: .int a :: st) σ := by
  obtain ⟨p, e, R, s, m, sa, below, meth, c, cells, slots⟩ := K
  intro H locs lsC hS hP hL
  exact lv_imul X.1 X.2.1 hd (k H locs lsC hS hP hL)
theorem am_iand (X : am_X G M d K) {a b : Int32} (hd : decode M.2.1 pc = .ok (.iand, 1)) (k : am_W G K Qe (pc + 1) ls (.int (a &&& b) :: st) σ) : am_W G K Qe pc ls (.int b :: .int a :: st) σ := by
  obtain ⟨p, e, R, s, m, sa, below, meth, c, cells, slots⟩ := K
  intro H locs lsC hS hP hL
  exact lv_iand X.1 X.2.1 hd (k H locs lsC hS hP hL)
theorem am_ior (X : am_X G M d K) {a b : Int32} (hd : decode M.2.1 pc = .ok (.ior, 1)) (k : am_W G K Qe (pc + 1) ls (.int (a ||| b) :: st) σ) : am_W G K Qe pc ls (.int b :: .int a :: st) σ := by
  obtain ⟨p, e, R, s, m, sa, below, meth, c, cells, slots⟩ := K
  intro H locs lsC hS hP hL
  exact lv_ior X.1 X.2.1 hd (k H locs lsC hS hP hL)
theorem am_ixor (X : am_X G M d K) {a b : Int32} (hd : decode M.2.1 pc = .ok (.ixor, 1)) (k : am_W G K Qe (pc + 1) ls (.int (a ^^^ b) :: st) σ) : am_W G K Qe pc ls (.int b :: .int a :: st) σ := by
  obtain ⟨p, e, R, s, m, sa, below, meth, c, cells, slots⟩ := K
  intro H locs lsC hS hP hL
  exact lv_ixor X.1 X.2.1 hd (k H locs lsC hS hP hL)
theorem am_ishl (X : am_X G M d K) {a b : Int32} (hd : decode M.2.1 pc = .ok (.ishl, 1)) (k : am_W G K Qe (pc + 1) ls (.int (a <<< (b &&& 31)) :: st) σ) : am_W G K Qe pc ls (.int b :: .int a :: st) σ := by
  obtain ⟨p, e, R, s, m, sa, below, meth, c, cells, slots⟩ := K
  intro H locs lsC hS hP hL
  exact lv_ishl X.1 X.2.1 hd (k H locs lsC hS hP hL)
theorem am_ishr (X : am_X G M d K) {a b : Int32} (hd : decode M.2.1 pc = .ok (.ishr, 1)) (k : am_W G K Qe (pc + 1) ls (.int (a >>> (b &&& 31)) :: st) σ) : am_W G K Qe pc ls (.int b :: .int a :: st) σ := by
  obtain ⟨p, e, R, s, m, sa, below, meth, c, cells, slots⟩ := K
  intro H locs lsC hS hP hL
  exact lv_ishr X.1 X.2.1 hd (k H locs lsC hS hP hL)
theorem am_iushr (X : am_X G M d K) {a b : Int32} (hd : decode M.2.1 pc = .ok (.iushr, 1)) (k : am_W G K Qe (pc + 1) ls (.int ((a.toUInt32 >>> (b.toUInt32 &&& Int32.toUInt32 31)).toInt32) :: st) σ) : am_W G K Qe pc ls (.int b :: .int a :: st) σ := by
  obtain ⟨p, e, R, s, m, sa, below, meth, c, cells, slots⟩ := K
  intro H locs lsC hS hP hL
  exact lv_iushr X.1 X.2.1 hd rfl (k H locs lsC hS hP hL)
theorem am_ineg (X : am_X G M d K) {a : Int32} (hd : decode M.2.1 pc = .ok (.ineg, 1)) (k : am_W G K Qe (pc + 1) ls (.int (-a) :: st) σ) : am_W G K Qe pc ls (.int a :: st) σ := by
  obtain ⟨p, e, R, s, m, sa, below, meth, c, cells, slots⟩ := K
  intro H locs lsC hS hP hL
  exact lv_ineg X.1 X.2.1 hd (k H locs lsC hS hP hL)
theorem am_idiv (X : am_X G M d K) {a b : Int32} (hd : decode M.2.1 pc = .ok (.idiv, 1)) (hne : ¬ b = 0) (k : am_W G K Qe (pc + 1) ls (.int (a / b) :: st) σ) : am_W G K Qe pc ls (.int b :: .int a :: st) σ := by
  obtain ⟨p, e, R, s, m, sa, below, meth, c, cells, slots⟩ := K
  intro H locs lsC hS hP hL
  exact lv_idiv X.1 X.2.1 hd hne (k H locs lsC hS hP hL)
theorem am_irem (X : am_X G M d K) {a b : Int32} (hd : decode M.2.1 pc = .ok (.irem, 1)) (hne : ¬ b = 0) (k : am_W G K Qe (pc + 1) ls (.int (a - a / b * b) :: st) σ) : am_W G K Qe pc ls (.int b :: .int a :: st) σ := by
  obtain ⟨p, e, R, s, m, sa, below, meth, c, cells, slots⟩ := K
  intro H locs lsC hS hP hL
  exact lv_irem X.1 X.2.1 hd hne (k H locs lsC hS hP hL)
theorem am_ladd (X : am_X G M d K) {a b : Int64} (hd : decode M.2.1 pc = .ok (.ladd, 1)) (k : am_W G K Qe (pc + 1) ls (.long (a + b) :: st) σ) : am_W G K Qe pc ls (.long b :: .long a :: st) σ := by
  obtain ⟨p, e, R, s, m, sa, below, meth, c, cells, slots⟩ := K
  intro H locs lsC hS hP hL
  exact lv_ladd X.1 X.2.1 hd (k H locs lsC hS hP hL)
theorem am_lmul (X : am_X G M d K) {a b : Int64} (hd : decode M.2.1 pc = .ok (.lmul, 1)) (k : am_W G K Qe (pc + 1) ls (.long (a * b) :: st) σ) : am_W G K Qe pc ls (.long b :: .long a :: st) σ := by
  obtain ⟨p, e, R, s, m, sa, below, meth, c, cells, slots⟩ := K
  intro H locs lsC hS hP hL
  exact lv_lmul X.1 X.2.1 hd (k H locs lsC hS hP hL)
theorem am_ldiv (X : am_X G M d K) {a b : Int64} (hd : decode M.2.1 pc = .ok (.ldiv, 1)) (hne : ¬ b = 0) (k : am_W G K Qe (pc + 1) ls (.long (a / b) :: st) σ) : am_W G K Qe pc ls (.long b :: .long a :: st) σ := by
  obtain ⟨p, e, R, s, m, sa, below, meth, c, cells, slots⟩ := K
  intro H locs lsC hS hP hL
  exact lv_ldiv X.1 X.2.1 hd hne (k H locs lsC hS hP hL)
theorem am_lrem (X : am_X G M d K) {a b : Int64} (hd : decode M.2.1 pc = .ok (.lrem, 1)) (hne : ¬ b = 0) (k : am_W G K Qe (pc + 1) ls (.long (a - a / b * b) :: st) σ) : am_W G K Qe pc ls (.long b :: .long a :: st) σ := by
  obtain ⟨p, e, R, s, m, sa, below, meth, c, cells, slots⟩ := K
  intro H locs lsC hS hP hL
  exact lv_lrem X.1 X.2.1 hd hne (k H locs lsC hS hP hL)
theorem am_lcmp (X : am_X G M d K) {a b : Int64} (hd : decode M.2.1 pc = .ok (.lcmp, 1)) (k : am_W G K Qe (pc + 1) ls (.int (lg_cmp a b) :: st) σ) : am_W G K Qe pc ls (.long b :: .long a :: st) σ := by
  obtain ⟨p, e, R, s, m, sa, below, meth, c, cells, slots⟩ := K
  intro H locs lsC hS hP hL
  exact W.lcmp X.1 X.2.1 hd (k H locs lsC hS hP hL)
theorem am_i2l (X : am_X G M d K) {a : Int32} (hd : decode M.2.1 pc = .ok (.i2l, 1)) (k : am_W G K Qe (pc + 1) ls (.long a.toInt64 :: st) σ) : am_W G K Qe pc ls (.int a :: st) σ := by
  obtain ⟨p, e, R, s, m, sa, below, meth, c, cells, slots⟩ := K
  intro H locs lsC hS hP hL
  exact lv_i2l X.1 X.2.1 hd rfl (k H locs lsC hS hP hL)
theorem am_i2c (X : am_X G M d K) {a : Int32} (hd : decode M.2.1 pc = .ok (.i2c, 1)) (k : am_W G K Qe (pc + 1) ls (.int (a.toUInt32 % 65536).toInt32 :: st) σ) : am_W G K Qe pc ls (.int a :: st) σ := by
  obtain ⟨p, e, R, s, m, sa, below, meth, c, cells, slots⟩ := K
  intro H locs lsC hS hP hL
  exact lv_i2c X.1 X.2.1 hd rfl (k H locs lsC hS hP hL)
theorem am_iconst (X : am_X G M d K) {n : Int} {v : Int32} (hd : decode M.2.1 pc = .ok (.iconst n, 1)) (hv : Int32.ofInt n = v) (k : am_W G K Qe (pc + 1) ls (.int v :: st) σ) : am_W G K Qe pc ls (st) σ := by
  obtain ⟨p, e, R, s, m, sa, below, meth, c, cells, slots⟩ := K
  intro H locs lsC hS hP hL
  exact lv_iconst X.1 X.2.1 hd hv (k H locs lsC hS hP hL)
theorem am_bipush (X : am_X G M d K) {n : Int} {v : Int32} (hd : decode M.2.1 pc = .ok (.bipush n, 2)) (hv : (Int8.ofInt n).toInt32 = v) (k : am_W G K Qe (pc + 2) ls (.int v :: st) σ) : am_W G K Qe pc ls (st) σ := by
  obtain ⟨p, e, R, s, m, sa, below, meth, c, cells, slots⟩ := K
  intro H locs lsC hS hP hL
  exact lv_bipush X.1 X.2.1 hd hv (k H locs lsC hS hP hL)
theorem am_sipush (X : am_X G M d K) {n : Int} {v : Int32} (hd : decode M.2.1 pc = .ok (.sipush n, 3)) (hv : (Int16.ofInt n).toInt32 = v) (k : am_W G K Qe (pc + 3) ls (.int v :: st) σ) : am_W G K Qe pc ls (st) σ := by
  obtain ⟨p, e, R, s, m, sa, below, meth, c, cells, slots⟩ := K
  intro H locs lsC hS hP hL
  exact lv_sipush X.1 X.2.1 hd hv (k H locs lsC hS hP hL)
theorem am_lconst (X : am_X G M d K) {n : Fin 2} {v : Int64} (hd : decode M.2.1 pc = .ok (.lconst n, 1)) (hv : Int64.ofNat (n : Nat) = v) (k : am_W G K Qe (pc + 1) ls (.long v :: st) σ) : am_W G K Qe pc ls (st) σ := by
  obtain ⟨p, e, R, s, m, sa, below, meth, c, cells, slots⟩ := K
  intro H locs lsC hS hP hL
  exact lv_lconst X.1 X.2.1 hd hv (k H locs lsC hS hP hL)
theorem am_iload_n (X : am_X G M d K) {n : Fin 4} {i : Nat} {x : Int32} (hd : decode M.2.1 pc = .ok (.iload_n n, 1)) (hi : (n : Nat) = i) (hl : ls[i]? = some (some (.int x))) (k : am_W G K Qe (pc + 1) ls (.int x :: st) σ) : am_W G K Qe pc ls (st) σ := by
  obtain ⟨p, e, R, s, m, sa, below, meth, c, cells, slots⟩ := K
  intro H locs lsC hS hP hL
  exact lv_iload_n X.1 X.2.1 hd hi (hL.at hl) (k H locs lsC hS hP hL)
theorem am_iload (X : am_X G M d K) {i : Nat} {x : Int32} (hd : decode M.2.1 pc = .ok (.iload i, 2)) (hl : ls[i]? = some (some (.int x))) (k : am_W G K Qe (pc + 2) ls (.int x :: st) σ) : am_W G K Qe pc ls (st) σ := by
  obtain ⟨p, e, R, s, m, sa, below, meth, c, cells, slots⟩ := K
  intro H locs lsC hS hP hL
  exact lv_iload X.1 X.2.1 hd (hL.at hl) (k H locs lsC hS hP hL)
theorem am_aload_n (X : am_X G M d K) {n : Fin 4} {i : Nat} {x : Nat} (hd : decode M.2.1 pc = .ok (.aload_n n, 1)) (hi : (n : Nat) = i) (hl : ls[i]? = some (some (.ref x))) (k : am_W G K Qe (pc + 1) ls (.ref x :: st) σ) : am_W G K Qe pc ls (st) σ := by
  obtain ⟨p, e, R, s, m, sa, below, meth, c, cells, slots⟩ := K
  intro H locs lsC hS hP hL
  exact lv_aload_n X.1 X.2.1 hd hi (hL.at hl) (k H locs lsC hS hP hL)
theorem am_aload (X : am_X G M d K) {i : Nat} {x : Nat} (hd : decode M.2.1 pc = .ok (.aload i, 2)) (hl : ls[i]? = some (some (.ref x))) (k : am_W G K Qe (pc + 2) ls (.ref x :: st) σ) : am_W G K Qe pc ls (st) σ := by
  obtain ⟨p, e, R, s, m, sa, below, meth, c, cells, slots⟩ := K
  intro H locs lsC hS hP hL
  exact lv_aload X.1 X.2.1 hd (hL.at hl) (k H locs lsC hS hP hL)
theorem am_lload_n (X : am_X G M d K) {n : Fin 4} {i : Nat} {x : Int64} (hd : decode M.2.1 pc = .ok (.lload_n n, 1)) (hi : (n : Nat) = i) (hl : ls[i]? = some (some (.long x))) (k : am_W G K Qe (pc + 1) ls (.long x :: st) σ) : am_W G K Qe pc ls (st) σ := by
  obtain ⟨p, e, R, s, m, sa, below, meth, c, cells, slots⟩ := K
  intro H locs lsC hS hP hL
  exact lv_lload_n X.1 X.2.1 hd hi (hL.at hl) (k H locs lsC hS hP hL)
theorem am_lload (X : am_X G M d K) {i : Nat} {x : Int64} (hd : decode M.2.1 pc = .ok (.lload i, 2)) (hl : ls[i]? = some (some (.long x))) (k : am_W G K Qe (pc + 2) ls (.long x :: st) σ) : am_W G K Qe pc ls (st) σ := by
  obtain ⟨p, e, R, s, m, sa, below, meth, c, cells, slots⟩ := K
  intro H locs lsC hS hP hL
  exact lv_lload X.1 X.2.1 hd (hL.at hl) (k H locs lsC hS hP hL)
theorem am_dup (X : am_X G M d K) {va : Value} (hd : decode M.2.1 pc = .ok (.dup, 1)) (hva : va.category = 1) (k : am_W G K Qe (pc + 1) ls (va :: va :: st) σ) : am_W G K Qe pc ls (va :: st) σ := by
  obtain ⟨p, e, R, s, m, sa, below, meth, c, cells, slots⟩ := K
  intro H locs lsC hS hP hL
  exact lv_dup X.1 X.2.1 hd (by rw [am_v_cat]; exact hva) (k H locs lsC hS hP hL)
theorem am_pop (X : am_X G M d K) {va : Value} (hd : decode M.2.1 pc = .ok (.pop, 1)) (hva : va.category = 1) (k : am_W G K Qe (pc + 1) ls (st) σ) : am_W G K Qe pc ls (va :: st) σ := by
  obtain ⟨p, e, R, s, m, sa, below, meth, c, cells, slots⟩ := K
  intro H locs lsC hS hP hL
  exact lv_pop X.1 X.2.1 hd (by rw [am_v_cat]; exact hva) (k H locs lsC hS hP hL)
theorem am_dup2 (X : am_X G M d K) {va vb : Value} (hd : decode M.2.1 pc = .ok (.dup2, 1)) (hva : va.category = 1) (hvb : vb.category = 1) (k : am_W G K Qe (pc + 1) ls (va :: vb :: va :: vb :: st) σ) : am_W G K Qe pc ls (va :: vb :: st) σ := by
  obtain ⟨p, e, R, s, m, sa, below, meth, c, cells, slots⟩ := K
  intro H locs lsC hS hP hL
  exact lv_dup2_11 X.1 X.2.1 hd (by rw [am_v_cat]; exact hva) (by rw [am_v_cat]; exact hvb) (k H locs lsC hS hP hL)
theorem am_dup_x1 (X : am_X G M d K) {va vb : Value} (hd : decode M.2.1 pc = .ok (.dup_x1, 1)) (hva : va.category = 1) (hvb : vb.category = 1) (k : am_W G K Qe (pc + 1) ls (va :: vb :: va :: st) σ) : am_W G K Qe pc ls (va :: vb :: st) σ := by
  obtain ⟨p, e, R, s, m, sa, below, meth, c, cells, slots⟩ := K
  intro H locs lsC hS hP hL
  exact lv_dup_x1 X.1 X.2.1 hd (by rw [am_v_cat]; exact hva) (by rw [am_v_cat]; exact hvb) (k H locs lsC hS hP hL)
theorem am_istore_nK (X : am_X G M d K) {n : Fin 4} {i : Nat} {x : Int32} (hd : decode M.2.1 pc = .ok (.istore_n n, 1)) (hi : (n : Nat) = i) (hn : i < M.2.2.1) (hok : am_ok ls i = true) (k : am_W G K Qe (pc + 1) (ls.set i (some (.int x))) st σ) : am_W G K Qe pc ls (.int x :: st) σ := by
  obtain ⟨p, e, R, s, m, sa, below, meth, c, cells, slots⟩ := K
  intro H locs lsC hS hP hL
  obtain ⟨l, h1, h2⟩ := hL
  exact lv_istore_n X.1 X.2.1 hd hi h1 (by rw [X.2.2.1]; exact hn) rfl (fun ls' h' => k H locs ls' hS hP (am_L.set1 (v := .int x) hok h2 h'))
theorem am_istoreK (X : am_X G M d K) {i : Nat} {x : Int32} (hd : decode M.2.1 pc = .ok (.istore i, 2)) (hn : i < M.2.2.1) (hok : am_ok ls i = true) (k : am_W G K Qe (pc + 2) (ls.set i (some (.int x))) st σ) : am_W G K Qe pc ls (.int x :: st) σ := by
  obtain ⟨p, e, R, s, m, sa, below, meth, c, cells, slots⟩ := K
  intro H locs lsC hS hP hL
  obtain ⟨l, h1, h2⟩ := hL
  exact lv_istore X.1 X.2.1 hd h1 (by rw [X.2.2.1]; exact hn) rfl (fun ls' h' => k H locs ls' hS hP (am_L.set1 (v := .int x) hok h2 h'))
theorem am_astore_nK (X : am_X G M d K) {n : Fin 4} {i : Nat} {x : Nat} (hd : decode M.2.1 pc = .ok (.astore_n n, 1)) (hi : (n : Nat) = i) (hn : i < M.2.2.1) (hok : am_ok ls i = true) (k : am_W G K Qe (pc + 1) (ls.set i (some (.ref x))) st σ) : am_W G K Qe pc ls (.ref x :: st) σ := by
  obtain ⟨p, e, R, s, m, sa, below, meth, c, cells, slots⟩ := K
  intro H locs lsC hS hP hL
  obtain ⟨l, h1, h2⟩ := hL
  exact lv_astore_n X.1 X.2.1 hd hi h1 (by rw [X.2.2.1]; exact hn) rfl (fun ls' h' => k H locs ls' hS hP (am_L.set1 (v := .ref x) hok h2 h'))
theorem am_astoreK (X : am_X G M d K) {i : Nat} {x : Nat} (hd : decode M.2.1 pc = .ok (.astore i, 2)) (hn : i < M.2.2.1) (hok : am_ok ls i = true) (k : am_W G K Qe (pc + 2) (ls.set i (some (.ref x))) st σ) : am_W G K Qe pc ls (.ref x :: st) σ := by
  obtain ⟨p, e, R, s, m, sa, below, meth, c, cells, slots⟩ := K
  intro H locs lsC hS hP hL
  obtain ⟨l, h1, h2⟩ := hL
  exact lv_astore X.1 X.2.1 hd h1 (by rw [X.2.2.1]; exact hn) rfl (fun ls' h' => k H locs ls' hS hP (am_L.set1 (v := .ref x) hok h2 h'))
theorem am_lstore_nK (X : am_X G M d K) {n : Fin 4} {i : Nat} {x : Int64} (hd : decode M.2.1 pc = .ok (.lstore_n n, 1)) (hi : (n : Nat) = i) (hn : i + 1 < M.2.2.1) (hok : am_ok ls i = true) (k : am_W G K Qe (pc + 1) ((ls.set i (some (.long x))).set (i + 1) none) st σ) : am_W G K Qe pc ls (.long x :: st) σ := by
  obtain ⟨p, e, R, s, m, sa, below, meth, c, cells, slots⟩ := K
  intro H locs lsC hS hP hL
  obtain ⟨l, h1, h2⟩ := hL
  exact lv_lstore_n X.1 X.2.1 hd hi h1 (by rw [X.2.2.1]; exact hn) rfl (fun ls' h' => k H locs ls' hS hP (am_L.set2 (v := .long x) hok h2 h'))
theorem am_lstoreK (X : am_X G M d K) {i : Nat} {x : Int64} (hd : decode M.2.1 pc = .ok (.lstore i, 2)) (hn : i + 1 < M.2.2.1) (hok : am_ok ls i = true) (k : am_W G K Qe (pc + 2) ((ls.set i (some (.long x))).set (i + 1) none) st σ) : am_W G K Qe pc ls (.long x :: st) σ := by
  obtain ⟨p, e, R, s, m, sa, below, meth, c, cells, slots⟩ := K
  intro H locs lsC hS hP hL
  obtain ⟨l, h1, h2⟩ := hL
  exact lv_lstore X.1 X.2.1 hd h1 (by rw [X.2.2.1]; exact hn) rfl (fun ls' h' => k H locs ls' hS hP (am_L.set2 (v := .long x) hok h2 h'))
theorem am_iincK (X : am_X G M d K) {i : Nat} {n : Int} {x v : Int32} (hd : decode M.2.1 pc = .ok (.iinc i n, 3)) (hl : ls[i]? = some (some (.int x))) (hv : x + Int32.ofInt n = v) (hn : i < M.2.2.1) (hok : am_ok ls i = true) (k : am_W G K Qe (pc + 3) (ls.set i (some (.int v))) st σ) : am_W G K Qe pc ls st σ := by
  obtain ⟨p, e, R, s, m, sa, below, meth, c, cells, slots⟩ := K
  intro H locs lsC hS hP hL
  obtain ⟨l, h1, h2⟩ := hL
  obtain ⟨q, hq⟩ := List.getElem?_of_mem (h2 i _ hl)
  exact lv_iinc X.1 X.2.1 hd h1 hq hv (by rw [X.2.2.1]; exact hn) rfl (fun ls' h' => k H locs ls' hS hP (am_L.set1 (v := .int v) hok h2 h'))
theorem am_if_eq (X : am_X G M d K) {x : Int32} {off : Int} {tgt : Nat} (hd : decode M.2.1 pc = .ok (.ifCond .eq off, 3)) (ht : (pc : Int) + off = (tgt : Int)) (kt : x = 0 → am_W G K Qe tgt ls st σ) (kf : ¬ x = 0 → am_W G K Qe (pc + 3) ls st σ) : am_W G K Qe pc ls (.int x :: st) σ := by
  obtain ⟨p, e, R, s, m, sa, below, meth, c, cells, slots⟩ := K
  intro H locs lsC hS hP hL
  exact lv_if_eq X.1 X.2.1 hd ht (fun h => kt h H locs lsC hS hP hL) (fun h => kf h H locs lsC hS hP hL)
theorem am_icmp_eq (X : am_X G M d K) {x y : Int32} {off : Int} {tgt : Nat} (hd : decode M.2.1 pc = .ok (.if_icmp .eq off, 3)) (ht : (pc : Int) + off = (tgt : Int)) (kt : x = y → am_W G K Qe tgt ls st σ) (kf : ¬ x = y → am_W G K Qe (pc + 3) ls st σ) : am_W G K Qe pc ls (.int y :: .int x :: st) σ := by
  obtain ⟨p, e, R, s, m, sa, below, meth, c, cells, slots⟩ := K
  intro H locs lsC hS hP hL
  exact lv_icmp_eq X.1 X.2.1 hd ht (fun h => kt h H locs lsC hS hP hL) (fun h => kf h H locs lsC hS hP hL)
theorem am_if_ne (X : am_X G M d K) {x : Int32} {off : Int} {tgt : Nat} (hd : decode M.2.1 pc = .ok (.ifCond .ne off, 3)) (ht : (pc : Int) + off = (tgt : Int)) (kt : ¬ x = 0 → am_W G K Qe tgt ls st σ) (kf : x = 0 → am_W G K Qe (pc + 3) ls st σ) : am_W G K Qe pc ls (.int x :: st) σ := by
  obtain ⟨p, e, R, s, m, sa, below, meth, c, cells, slots⟩ := K
  intro H locs lsC hS hP hL
  exact lv_if_ne X.1 X.2.1 hd ht (fun h => kt h H locs lsC hS hP hL) (fun h => kf h H locs lsC hS hP hL)
theorem am_icmp_ne (X : am_X G M d K) {x y : Int32} {off : Int} {tgt : Nat} (hd : decode M.2.1 pc = .ok (.if_icmp .ne off, 3)) (ht : (pc : Int) + off = (tgt : Int)) (kt : ¬ x = y → am_W G K Qe tgt ls st σ) (kf : x = y → am_W G K Qe (pc + 3) ls st σ) : am_W G K Qe pc ls (.int y :: .int x :: st) σ := by
  obtain ⟨p, e, R, s, m, sa, below, meth, c, cells, slots⟩ := K
  intro H locs lsC hS hP hL
  exact lv_icmp_ne X.1 X.2.1 hd ht (fun h => kt h H locs lsC hS hP hL) (fun h => kf h H locs lsC hS hP hL)
theorem am_if_lt (X : am_X G M d K) {x : Int32} {off : Int} {tgt : Nat} (hd : decode M.2.1 pc = .ok (.ifCond .lt off, 3)) (ht : (pc : Int) + off = (tgt : Int)) (kt : x < 0 → am_W G K Qe tgt ls st σ) (kf : ¬ x < 0 → am_W G K Qe (pc + 3) ls st σ) : am_W G K Qe pc ls (.int x :: st) σ := by
  obtain ⟨p, e, R, s, m, sa, below, meth, c, cells, slots⟩ := K
  intro H locs lsC hS hP hL
  exact lv_if_lt X.1 X.2.1 hd ht (fun h => kt h H locs lsC hS hP hL) (fun h => kf h H locs lsC hS hP hL)
theorem am_icmp_lt (X : am_X G M d K) {x y : Int32} {off : Int} {tgt : Nat} (hd : decode M.2.1 pc = .ok (.if_icmp .lt off, 3)) (ht : (pc : Int) + off = (tgt : Int)) (kt : x < y → am_W G K Qe tgt ls st σ) (kf : ¬ x < y → am_W G K Qe (pc + 3) ls st σ) : am_W G K Qe pc ls (.int y :: .int x :: st) σ := by
  obtain ⟨p, e, R, s, m, sa, below, meth, c, cells, slots⟩ := K
  intro H locs lsC hS hP hL
  exact lv_icmp_lt X.1 X.2.1 hd ht (fun h => kt h H locs lsC hS hP hL) (fun h => kf h H locs lsC hS hP hL)
theorem am_if_ge (X : am_X G M d K) {x : Int32} {off : Int} {tgt : Nat} (hd : decode M.2.1 pc = .ok (.ifCond .ge off, 3)) (ht : (pc : Int) + off = (tgt : Int)) (kt : 0 ≤ x → am_W G K Qe tgt ls st σ) (kf : ¬ 0 ≤ x → am_W G K Qe (pc + 3) ls st σ) : am_W G K Qe pc ls (.int x :: st) σ := by
  obtain ⟨p, e, R, s, m, sa, below, meth, c, cells, slots⟩ := K
  intro H locs lsC hS hP hL
  exact lv_if_ge X.1 X.2.1 hd ht (fun h => kt h H locs lsC hS hP hL) (fun h => kf h H locs lsC hS hP hL)
theorem am_icmp_ge (X : am_X G M d K) {x y : Int32} {off : Int} {tgt : Nat} (hd : decode M.2.1 pc = .ok (.if_icmp .ge off, 3)) (ht : (pc : Int) + off = (tgt : Int)) (kt : y ≤ x → am_W G K Qe tgt ls st σ) (kf : ¬ y ≤ x → am_W G K Qe (pc + 3) ls st σ) : am_W G K Qe pc ls (.int y :: .int x :: st) σ := by
  obtain ⟨p, e, R, s, m, sa, below, meth, c, cells, slots⟩ := K
  intro H locs lsC hS hP hL
  exact lv_icmp_ge X.1 X.2.1 hd ht (fun h => kt h H locs lsC hS hP hL) (fun h => kf h H locs lsC hS hP hL)
theorem am_if_gt (X : am_X G M d K) {x : Int32} {off : Int} {tgt : Nat} (hd : decode M.2.1 pc = .ok (.ifCond .gt off, 3)) (ht : (pc : Int) + off = (tgt : Int)) (kt : 0 < x → am_W G K Qe tgt ls st σ) (kf : ¬ 0 < x → am_W G K Qe (pc + 3) ls st σ) : am_W G K Qe pc ls (.int x :: st) σ := by
  obtain ⟨p, e, R, s, m, sa, below, meth, c, cells, slots⟩ := K
  intro H locs lsC hS hP hL
  exact lv_if_gt X.1 X.2.1 hd ht (fun h => kt h H locs lsC hS hP hL) (fun h => kf h H locs lsC hS hP hL)
theorem am_icmp_gt (X : am_X G M d K) {x y : Int32} {off : Int} {tgt : Nat} (hd : decode M.2.1 pc = .ok (.if_icmp .gt off, 3)) (ht : (pc : Int) + off = (tgt : Int)) (kt : y < x → am_W G K Qe tgt ls st σ) (kf : ¬ y < x → am_W G K Qe (pc + 3) ls st σ) : am_W G K Qe pc ls (.int y :: .int x :: st) σ := by
  obtain ⟨p, e, R, s, m, sa, below, meth, c, cells, slots⟩ := K
  intro H locs lsC hS hP hL
  exact lv_icmp_gt X.1 X.2.1 hd ht (fun h => kt h H locs lsC hS hP hL) (fun h => kf h H locs lsC hS hP hL)
theorem am_if_le (X : am_X G M d K) {x : Int32} {off : Int} {tgt : Nat} (hd : decode M.2.1 pc = .ok (.ifCond .le off, 3)) (ht : (pc : Int) + off = (tgt : Int)) (kt : x ≤ 0 → am_W G K Qe tgt ls st σ) (kf : ¬ x ≤ 0 → am_W G K Qe (pc + 3) ls st σ) : am_W G K Qe pc ls (.int x :: st) σ := by
  obtain ⟨p, e, R, s, m, sa, below, meth, c, cells, slots⟩ := K
  intro H locs lsC hS hP hL
  exact lv_if_le X.1 X.2.1 hd ht (fun h => kt h H locs lsC hS hP hL) (fun h => kf h H locs lsC hS hP hL)
theorem am_icmp_le (X : am_X G M d K) {x y : Int32} {off : Int} {tgt : Nat} (hd : decode M.2.1 pc = .ok (.if_icmp .le off, 3)) (ht : (pc : Int) + off = (tgt : Int)) (kt : x ≤ y → am_W G K Qe tgt ls st σ) (kf : ¬ x ≤ y → am_W G K Qe (pc + 3) ls st σ) : am_W G K Qe pc ls (.int y :: .int x :: st) σ := by
  obtain ⟨p, e, R, s, m, sa, below, meth, c, cells, slots⟩ := K
  intro H locs lsC hS hP hL
  exact lv_icmp_le X.1 X.2.1 hd ht (fun h => kt h H locs lsC hS hP hL) (fun h => kf h H locs lsC hS hP hL)
theorem am_goto (X : am_X G M d K) {off : Int} {tgt : Nat} (hd : decode M.2.1 pc = .ok (.goto off, 3)) (ht : (pc : Int) + off = (tgt : Int)) (k : am_W G K Qe tgt ls st σ) : am_W G K Qe pc ls st σ := by
  obtain ⟨p, e, R, s, m, sa, below, meth, c, cells, slots⟩ := K
  intro H locs lsC hS hP hL
  exact lv_goto X.1 X.2.1 hd ht (k H locs lsC hS hP hL)
theorem am_tableIn (X : am_X G M d K) {dflt lo hi : Int} {offs : Array Int} {len : Nat} {x : Int32} {off : Int} {tgt : Nat} (hd : decode M.2.1 pc = .ok (.tableswitch dflt lo hi offs, len)) (h1 : ¬ x.toInt < lo) (h2 : ¬ hi < x.toInt) (ho : offs[(x.toInt - lo).toNat]? = some off) (ht : (pc : Int) + off = (tgt : Int)) (k : am_W G K Qe tgt ls st σ) : am_W G K Qe pc ls (.int x :: st) σ := by
  obtain ⟨p, e, R, s, m, sa, below, meth, c, cells, slots⟩ := K
  intro H locs lsC hS hP hL
  exact lv_tableIn X.1 X.2.1 hd h1 h2 ho ht (k H locs lsC hS hP hL)
theorem am_tableOut (X : am_X G M d K) {dflt lo hi : Int} {offs : Array Int} {len : Nat} {x : Int32} {tgt : Nat} (hd : decode M.2.1 pc = .ok (.tableswitch dflt lo hi offs, len)) (h : x.toInt < lo ∨ hi < x.toInt) (ht : (pc : Int) + dflt = (tgt : Int)) (k : am_W G K Qe tgt ls st σ) : am_W G K Qe pc ls (.int x :: st) σ := by
  obtain ⟨p, e, R, s, m, sa, below, meth, c, cells, slots⟩ := K
  intro H locs lsC hS hP hL
  exact lv_tableOut X.1 X.2.1 hd h ht (k H locs lsC hS hP hL)
theorem am_lookup (X : am_X G M d K) {dflt : Int} {ps : Array (Int × Int)} {len : Nat} {x : Int32} {off : Int} {tgt : Nat} (hd : decode M.2.1 pc = .ok (.lookupswitch dflt ps, len)) (hp : (ps.toList.zip (ps.toList.drop 1)).all (fun (a, next) => a.1 < next.1) = true) (ho : Op.lookupswitch.offset ps.toList dflt x.toInt = off) (ht : (pc : Int) + off = (tgt : Int)) (k : am_W G K Qe tgt ls st σ) : am_W G K Qe pc ls (.int x :: st) σ := by
  obtain ⟨p, e, R, s, m, sa, below, meth, c, cells, slots⟩ := K
  intro H locs lsC hS hP hL
  exact lv_lookup X.1 X.2.1 hd hp ho ht (k H locs lsC hS hP hL)
theorem am_ldc (X : am_X G M d K) {idx : Nat} {v : Int32} (hd : decode M.2.1 pc = .ok (.ldc idx, 2)) (hw : Cond.constant M.1 idx v ∈ wsL_law) (k : am_W G K Qe (pc + 2) ls (.int v :: st) σ) : am_W G K Qe pc ls st σ := by
  obtain ⟨p, e, R, s, m, sa, below, meth, c, cells, slots⟩ := K
  intro H locs lsC hS hP hL
  exact lv_ldc X.1 X.2.1 X.2.2.2.1 (X.2.2.2.2.1 _ hw) hd (k H locs lsC hS hP hL)
theorem am_ldcw (X : am_X G M d K) {idx : Nat} {v : Int32} (hd : decode M.2.1 pc = .ok (.ldc_w idx, 3)) (hw : Cond.constant M.1 idx v ∈ wsL_law) (k : am_W G K Qe (pc + 3) ls (.int v :: st) σ) : am_W G K Qe pc ls st σ := by
  obtain ⟨p, e, R, s, m, sa, below, meth, c, cells, slots⟩ := K
  intro H locs lsC hS hP hL
  exact lv_ldcw X.1 X.2.1 X.2.2.2.1 (X.2.2.2.2.1 _ hw) hd (k H locs lsC hS hP hL)
theorem am_ldc2 (X : am_X G M d K) {idx : Nat} {v : Int64} (hd : decode M.2.1 pc = .ok (.ldc2_w idx, 3)) (hw : Cond.constantLong M.1 idx v ∈ wsL_law) (k : am_W G K Qe (pc + 3) ls (.long v :: st) σ) : am_W G K Qe pc ls st σ := by
  obtain ⟨p, e, R, s, m, sa, below, meth, c, cells, slots⟩ := K
  intro H locs lsC hS hP hL
  exact lv_ldc2 X.1 X.2.1 X.2.2.2.1 (X.2.2.2.2.1 _ hw) hd (k H locs lsC hS hP hL)
/-! fields, arrays, returns, calls -/
theorem am_e_obj {G : Cx} {σ : Sg} {k ci : Nat} {fs : List (Option Nat)} (hs : am_shp[k]? = some (.inl (ci, fs))) : am_e G σ k = .inr (ci, (List.range fs.length).map (am_fv G (σ.1 k) fs)) := by unfold am_e; rw [hs]
theorem am_e_i {G : Cx} {σ : Sg} {k n : Nat} (hs : am_shp[k]? = some (.inr (0, n))) : am_e G σ k = .inl (G.2.2.1 0, n, .inl (σ.2.1 k)) := by unfold am_e; rw [hs]; rfl
theorem am_e_l {G : Cx} {σ : Sg} {k n : Nat} (hs : am_shp[k]? = some (.inr (1, n))) : am_e G σ k = .inl (G.2.2.1 1, n, .inr (.inl (σ.2.2 k))) := by unfold am_e; rw [hs]; rfl
theorem am_e_z {G : Cx} {σ : Sg} {k n : Nat} (hs : am_shp[k]? = some (.inr (2, n))) : am_e G σ k = .inl (G.2.2.1 2, n, .inl (σ.2.1 k)) := by unfold am_e; rw [hs]; rfl
theorem am_lt {k : Nat} {x : Sh} (hs : am_shp[k]? = some x) : k < am_N := (List.getElem?_eq_some_iff.mp hs).1
/-- what is said of a field: its class in the table, its slot, the word that links it, and what a store wants -/
def am_fl (own : String) (idx ci j : Nat) : Prop := ∃ (C : String) (T : u_T) (N : Nat) (ty : Nat → FieldType), vwCl[ci]? = some (C, T, N) ∧ j < N ∧ (∀ w ∈ u_ws C T N, w ∈ wsL_law) ∧ Cond.fieldLink own idx (T j).1 (T j).2.1 (T j).2.2.1 ∈ wsL_law ∧ (∀ k, k < N → parseFieldDescriptor (T k).2.2.1 = some (ty k)) ∧ (∀ a, a < N → ∀ b, b < N → a ≠ b → (T a).2.1 ≠ (T b).2.1) ∧ ((T j).2.2.2 = true ∨ ((T j).2.2.2 = false ∧ (ty j = .int ∨ ty j = .boolean)))
theorem am_getf (X : am_X G M d K) {k idx ci j : Nat} {fs : List (Option Nat)} {v : Value} (hd : decode M.2.1 pc = .ok (.getfield idx, 3)) (hf : am_fl M.1 idx ci j) (hs : am_shp[k]? = some (.inl (ci, fs))) (hv : (match fs[j]? with | some (some i) => Value.ref i | _ => .int (rg σ k j)) = v) (hj : j < fs.length) (kk : am_W G K Qe (pc + 3) ls (v :: st) σ) : am_W G K Qe pc ls (.ref k :: st) σ := by
  obtain ⟨p, e, R, s, m, sa, below, meth, c, cells, slots⟩ := K
  intro H locs lsC hS hP hL
  obtain ⟨C, T, N, ty, hc, hjN, hin, hl, -⟩ := hf
  have hts := X.2.2.2.2.1
  refine va_get X.1 X.2.1 hts hin X.2.2.2.1 X.2.2.2.2.2.2.2.1.1 hP k (by rw [am_get (am_lt hs), am_e_obj hs]) hc j hjN (hts _ hl) (fun _ h9 => h9) (v := am_v G v) ?_ hd (kk H locs lsC hS hP hL)
  rw [List.getElem?_map, List.getElem?_range hj]
  subst hv
  unfold am_fv
  cases h : fs[j]? with
  | none => simp [h, am_v, rg]
  | some o => cases o <;> simp [h, am_v, rg]
theorem am_iald (X : am_X G M d K) {k n : Nat} {i : Int32} (hd : decode M.2.1 pc = .ok (.iaload, 1)) (hs : am_shp[k]? = some (.inr (0, n))) (hi : inb i n = true) (kk : am_W G K Qe (pc + 1) ls (.int (ar σ k i.toNatClampNeg) :: st) σ) : am_W G K Qe pc ls (.int i :: .ref k :: st) σ := by
  obtain ⟨p, e, R, s, m, sa, below, meth, c, cells, slots⟩ := K
  intro H locs lsC hS hP hL
  exact va_iald X.1 X.2.1 X.2.2.2.2.2.2.2.1.1 hP k 0 (by rw [am_get (am_lt hs), am_e_i hs] <;> rfl) rfl (inb_in hi) hd (kk H locs lsC hS hP hL)
theorem am_zald (X : am_X G M d K) {k n : Nat} {i : Int32} (hd : decode M.2.1 pc = .ok (.baload, 1)) (hs : am_shp[k]? = some (.inr (2, n))) (hi : inb i n = true) (kk : am_W G K Qe (pc + 1) ls (.int (ar σ k i.toNatClampNeg) :: st) σ) : am_W G K Qe pc ls (.int i :: .ref k :: st) σ := by
  obtain ⟨p, e, R, s, m, sa, below, meth, c, cells, slots⟩ := K
  intro H locs lsC hS hP hL
  exact va_zald X.1 X.2.1 X.2.2.2.2.2.2.2.1.1 hP k 2 (by rw [am_get (am_lt hs), am_e_z hs] <;> rfl) rfl (inb_in hi) hd (kk H locs lsC hS hP hL)
theorem am_lald (X : am_X G M d K) {k n : Nat} {i : Int32} (hd : decode M.2.1 pc = .ok (.laload, 1)) (hs : am_shp[k]? = some (.inr (1, n))) (hi : inb i n = true) (kk : am_W G K Qe (pc + 1) ls (.long (al σ k i.toNatClampNeg) :: st) σ) : am_W G K Qe pc ls (.int i :: .ref k :: st) σ := by
  obtain ⟨p, e, R, s, m, sa, below, meth, c, cells, slots⟩ := K
  intro H locs lsC hS hP hL
  exact va_lald X.1 X.2.1 X.2.2.2.2.2.2.2.1.1 hP k 1 (by rw [am_get (am_lt hs), am_e_l hs] <;> rfl) rfl (inb_in hi) hd (kk H locs lsC hS hP hL)
theorem am_iast (X : am_X G M d K) {k n : Nat} {i x : Int32} (hd : decode M.2.1 pc = .ok (.iastore, 1)) (hs : am_shp[k]? = some (.inr (0, n))) (hi : inb i n = true) (kk : am_W G K Qe (pc + 1) ls st (sar σ k i.toNatClampNeg x)) : am_W G K Qe pc ls (.int x :: .int i :: .ref k :: st) σ := by
  obtain ⟨p, e, R, s, m, sa, below, meth, c, cells, slots⟩ := K
  intro H locs lsC hS hP hL
  refine va_iast X.1 X.2.1 X.2.2.2.2.2.2.2.1.1 hP (am_D X.2.2.2.2.2.2.2.2.2.2) hS k 0 (by rw [am_get (am_lt hs), am_e_i hs] <;> rfl) rfl (inb_in hi) hd fun H1 locs1 hP1 hD1 hS1 => ?_
  refine kk H1 locs1 lsC hS1 ?_ hL
  rw [am_set (σ := σ) (σ' := sar σ k i.toNatClampNeg x) (am_lt hs) (fun j hj => am_e_congr rfl (up2_ne hj) rfl)] at hP1
  · exact hP1
  · rw [am_e_i hs]
    simp only [sar, up2_self]
    rfl
theorem am_zast (X : am_X G M d K) {k n : Nat} {i x : Int32} (hd : decode M.2.1 pc = .ok (.bastore, 1)) (hs : am_shp[k]? = some (.inr (2, n))) (hi : inb i n = true) (kk : am_W G K Qe (pc + 1) ls st (sar σ k i.toNatClampNeg (vp_nar .boolean x))) : am_W G K Qe pc ls (.int x :: .int i :: .ref k :: st) σ := by
  obtain ⟨p, e, R, s, m, sa, below, meth, c, cells, slots⟩ := K
  intro H locs lsC hS hP hL
  refine va_zast X.1 X.2.1 X.2.2.2.2.2.2.2.1.1 hP (am_D X.2.2.2.2.2.2.2.2.2.2) hS k 2 (by rw [am_get (am_lt hs), am_e_z hs] <;> rfl) rfl (inb_in hi) hd fun H1 locs1 hP1 hD1 hS1 => ?_
  refine kk H1 locs1 lsC hS1 ?_ hL
  rw [am_set (σ := σ) (σ' := sar σ k i.toNatClampNeg (vp_nar .boolean x)) (am_lt hs) (fun j hj => am_e_congr rfl (up2_ne hj) rfl)] at hP1
  · exact hP1
  · rw [am_e_z hs]
    simp only [sar, up2_self]
    rfl
theorem am_last (X : am_X G M d K) {k n : Nat} {i : Int32} {x : Int64} (hd : decode M.2.1 pc = .ok (.lastore, 1)) (hs : am_shp[k]? = some (.inr (1, n))) (hi : inb i n = true) (kk : am_W G K Qe (pc + 1) ls st (sal σ k i.toNatClampNeg x)) : am_W G K Qe pc ls (.long x :: .int i :: .ref k :: st) σ := by
  obtain ⟨p, e, R, s, m, sa, below, meth, c, cells, slots⟩ := K
  intro H locs lsC hS hP hL
  refine va_last X.1 X.2.1 X.2.2.2.2.2.2.2.1.1 hP (am_D X.2.2.2.2.2.2.2.2.2.2) hS k 1 (by rw [am_get (am_lt hs), am_e_l hs] <;> rfl) rfl (inb_in hi) hd fun H1 locs1 hP1 hD1 hS1 => ?_
  refine kk H1 locs1 lsC hS1 ?_ hL
  rw [am_set (σ := σ) (σ' := sal σ k i.toNatClampNeg x) (am_lt hs) (fun j hj => am_e_congr rfl rfl (up2_ne hj))] at hP1
  · exact hP1
  · rw [am_e_l hs]
    simp only [sal, up2_self]
    rfl
/-- the constants: ABOVE (id 90), BODIES (id 91) -/
theorem am_gets_above (X : am_X G M d K) {idx : Nat} (hd : decode M.2.1 pc = .ok (.getstatic idx, 3)) (hw : Cond.fieldLink M.1 idx "EvenTally" "ABOVE" "[I" ∈ wsL_law) (kk : am_W G K Qe (pc + 3) ls (.ref 90 :: st) σ) : am_W G K Qe pc ls st σ := by
  obtain ⟨p, e, R, s, m, sa, below, meth, c, cells, slots⟩ := K
  intro H locs lsC hS hP hL
  exact va_gets X.1 X.2.1 X.2.2.2.2.2.2.2.1.2.1 hS X.2.2.2.1 (X.2.2.2.2.1 _ hw) (fun _ h9 => h9) hd (kk H locs lsC hS hP hL)
theorem am_gets_bodies (X : am_X G M d K) {idx : Nat} (hd : decode M.2.1 pc = .ok (.getstatic idx, 3)) (hw : Cond.fieldLink M.1 idx "EvenTally$Actor" "BODIES" "[I" ∈ wsL_law) (kk : am_W G K Qe (pc + 3) ls (.ref 91 :: st) σ) : am_W G K Qe pc ls st σ := by
  obtain ⟨p, e, R, s, m, sa, below, meth, c, cells, slots⟩ := K
  intro H locs lsC hS hP hL
  exact va_gets X.1 X.2.1 X.2.2.2.2.2.2.2.1.2.2.1 hS X.2.2.2.1 (X.2.2.2.2.1 _ hw) (fun _ h9 => h9) hd (kk H locs lsC hS hP hL)
theorem am_gets_aboveN (X : am_X G M d K) (hM : M.1 = "EvenTally$Actor") (hd : decode M.2.1 pc = .ok (.getstatic 41, 3)) (kk : am_W G K Qe (pc + 3) ls (.ref 90 :: st) σ) : am_W G K Qe pc ls st σ := by
  obtain ⟨p, e, R, s, m, sa, below, meth, c, cells, slots⟩ := K
  intro H locs lsC hS hP hL
  have hF := X.2.2.2.2.2.2.2.1
  exact va_getsN X.1 X.2.1 hF.2.1 hS (own := "EvenTally$Actor") (by rw [← hM]; exact X.2.2.2.1) (va_Nw.use rfl hF.2.2.2.2.2.2.2.2.1) (fun _ h9 => h9) hd (kk H locs lsC hS hP hL)
theorem am_ald_above (X : am_X G M d K) {i : Int32} (hd : decode M.2.1 pc = .ok (.iaload, 1)) (hi : inb i 7 = true) (kk : am_W G K Qe (pc + 1) ls (.int (am_above i.toNatClampNeg) :: st) σ) : am_W G K Qe pc ls (.int i :: .ref 90 :: st) σ := by
  obtain ⟨p, e, R, s, m, sa, below, meth, c, cells, slots⟩ := K
  intro H locs lsC hS hP hL
  exact va_ti X.1 X.2.1 X.2.2.2.2.2.2.2.1.2.2.2.1 hS (inb_in hi) rfl hd (kk H locs lsC hS hP hL)
theorem am_ald_bodies (X : am_X G M d K) {i : Int32} (hd : decode M.2.1 pc = .ok (.iaload, 1)) (hi : inb i 21 = true) (kk : am_W G K Qe (pc + 1) ls (.int (am_bodies i.toNatClampNeg) :: st) σ) : am_W G K Qe pc ls (.int i :: .ref 91 :: st) σ := by
  obtain ⟨p, e, R, s, m, sa, below, meth, c, cells, slots⟩ := K
  intro H locs lsC hS hP hL
  exact va_ti X.1 X.2.1 X.2.2.2.2.2.2.2.1.2.2.2.2.1 hS (inb_in hi) rfl hd (kk H locs lsC hS hP hL)
theorem am_ldcS (X : am_X G M d K) {idx i : Nat} {tx : String} (hd : decode M.2.1 pc = .ok (.ldc idx, 2)) (hw : (M.1, idx, tx, i) ∈ am_txt) (kk : am_W G K Qe (pc + 2) ls (.ref (100 + i) :: st) σ) : am_W G K Qe pc ls st σ := by
  obtain ⟨p, e, R, s, m, sa, below, meth, c, cells, slots⟩ := K
  intro H locs lsC hS hP hL
  exact va_ldcS X.1 X.2.1 X.2.2.2.1 (X.2.2.2.2.2.2.2.1.2.2.2.2.2.2.1 _ hw) hd (kk H locs lsC hS hP hL)
/-! returns -/
theorem am_iret (X : am_X G M d K) (h0 : K.2.2.2.2.2.2.2.2.2 = (0, 0)) {Q : Option Value → Sg → Prop} {x : Int32} (hd : decode M.2.1 pc = .ok (.ireturn, 1)) (hr : M.2.2.2 = some .int) (hq : Q (some (.int x)) σ) : am_W G K (am_E G Q K) pc ls [.int x] σ := by
  obtain ⟨p, e, R, s, m, sa, below, meth, c, cells, slots⟩ := K
  cases h0
  intro H locs lsC hS hP hL
  exact W.iret X.1 X.2.1 (X.2.2.2.2.2.1.trans hr) (fun t ht hW => ⟨⟨some (.int x), σ, rfl, hq, by rw [ht]; exact hP⟩, hS.F ht⟩) hS.2.2 hd X.2.2.2.2.2.2.1
theorem am_zret (X : am_X G M d K) (h0 : K.2.2.2.2.2.2.2.2.2 = (0, 0)) {Q : Option Value → Sg → Prop} {x : Int32} {ty : FieldType} (hd : decode M.2.1 pc = .ok (.ireturn, 1)) (hr : M.2.2.2 = some ty) (hn : narrow ty (.int x) = .int x) (hq : Q (some (.int x)) σ) : am_W G K (am_E G Q K) pc ls [.int x] σ := by
  obtain ⟨p, e, R, s, m, sa, below, meth, c, cells, slots⟩ := K
  cases h0
  intro H locs lsC hS hP hL
  exact W.zret X.1 X.2.1 (X.2.2.2.2.2.1.trans hr) hn (fun t ht hW => ⟨⟨some (.int x), σ, rfl, hq, by rw [ht]; exact hP⟩, hS.F ht⟩) hS.2.2 hd X.2.2.2.2.2.2.1
theorem am_lret (X : am_X G M d K) (h0 : K.2.2.2.2.2.2.2.2.2 = (0, 0)) {Q : Option Value → Sg → Prop} {x : Int64} (hd : decode M.2.1 pc = .ok (.lreturn, 1)) (hr : M.2.2.2 = some .long) (hq : Q (some (.long x)) σ) : am_W G K (am_E G Q K) pc ls [.long x] σ := by
  obtain ⟨p, e, R, s, m, sa, below, meth, c, cells, slots⟩ := K
  cases h0
  intro H locs lsC hS hP hL
  exact W.lret X.1 X.2.1 (X.2.2.2.2.2.1.trans hr) (fun t ht hW => ⟨⟨some (.long x), σ, rfl, hq, by rw [ht]; exact hP⟩, hS.F ht⟩) hS.2.2 hd X.2.2.2.2.2.2.1
theorem am_vret (X : am_X G M d K) (h0 : K.2.2.2.2.2.2.2.2.2 = (0, 0)) {Q : Option Value → Sg → Prop} (hd : decode M.2.1 pc = .ok (.return_, 1)) (hr : M.2.2.2 = none) (hq : Q none σ) : am_W G K (am_E G Q K) pc ls [] σ := by
  obtain ⟨p, e, R, s, m, sa, below, meth, c, cells, slots⟩ := K
  cases h0
  intro H locs lsC hS hP hL
  exact W.vret X.1 X.2.1 (X.2.2.2.2.2.1.trans hr) (fun t ht hW => ⟨⟨none, σ, rfl, hq, by rw [ht]; exact hP⟩, hS.F ht⟩) hS.2.2 hd X.2.2.2.2.2.2.1
end AM
/-! calls -/
theorem wsL_good : GoodIn wsL_law wsL_law := goodIn_sub (fun _ h => h) (by decide +kernel)
theorem am_good {y : MethodName} {M : Mi} (h : Cond.code y M.2.1 M.2.2.1 M.2.2.2 ∈ wsL_law) : GoodIn wsL_law (am_ws y M) := by
  intro w hw
  rcases List.mem_cons.mp hw with rfl | hw
  · exact wsL_good _ h
  · exact wsL_good _ hw
/-- what is said of a call: its words; how many it takes -/
def am_cw (own : String) (idx : Nat) (y : MethodName) (M : Mi) (n : Nat) : Prop := Cond.methodLink own idx y ∈ wsL_law ∧ Cond.initialized y.cls ∈ wsL_law ∧ Cond.code y M.2.1 M.2.2.1 M.2.2.2 ∈ wsL_law ∧ M.2.2.1 ≤ 21 ∧ (y.cls ≠ "java/lang/invoke/MethodHandle" ∧ y.cls ≠ "java/lang/invoke/VarHandle" ∧ (parseMethodDescriptor y.desc).map (fun d => d.parameters.length) = some n)
def am_cv (own : String) (idx : Nat) (y : MethodName) (M : Mi) (n : Nat) : Prop := am_cw own idx y M n ∧ Cond.instanceMethod y ∈ wsL_law ∧ Cond.selects y.cls y y ∈ wsL_law
def am_cs (own : String) (idx : Nat) (y : MethodName) (M : Mi) (n : Nat) : Prop := am_cw own idx y M n ∧ Cond.static y ∈ wsL_law
section AMC
variable {p : Program} {e : Env} {R : Room} {s : State} {m : MethodId} {args : Array Value} {below : List Frame} {meth : Method} {c : Code} {H : Heap} {locs : List Loc} {cells slots : Nat} {Qe : State → Prop} {G : Cx}
theorem am_after {pc : Nat} {lsC : Array Slot} {stC restC : List Value} {a : Array Value} {Q' : Option Value → Sg → Prop} (hr : va_Run p G.1 e R s m args below meth c H locs cells slots 0 0 (F0 m pc lsC stC) restC (am_Qc G Q' a) (am_A G)) (hS : va_S (am_A G) s.heap H locs)
    (kk : ∀ (r : Option Value) (σ' : Sg) (H1 : Heap) (locs1 : List Loc), Q' r σ' → va_P G.2.1 vwCl (am_w G σ') H1 → va_S (am_A G) s.heap H1 locs1 → W p G.1 e R s m args below meth c H1 locs1 cells slots Qe (F0 m (pc + 3) lsC ((r.map (am_v G)).toList ++ restC))) : W p G.1 e R s m args below meth c H locs cells slots Qe (F0 m pc lsC stC) := by
  intro T hT X
  obtain ⟨v, st₀, t, T', L, h0, X', hL, e1, e2, ⟨⟨r, σ', hv, hq, hP⟩, hz, hk⟩, st⟩ := hr T hT X
  cases hv
  rw [h0] at hz hk
  obtain ⟨t2, a1, b1⟩ := kk r σ' T'.heap (locs ++ L) hq (by rw [e1]; exact hP)
    ⟨Nat.le_trans hS.1 (by rw [e1]; exact hz), fun q h1 h2 => by rw [e1, hk q (Nat.lt_of_lt_of_le h1 hS.1) h2]; exact hS.2.1 q h1 h2, fun q hq => by
      rcases List.mem_append.mp hq with h | h
      · exact hS.2.2 q h
      · exact hL q h⟩ T' rfl X'
  exact ⟨t2, st t2 a1, b1⟩
end AMC
section AMD
variable {G : Cx} {M : Mi} {d : Nat} {K : Kx} {Qe : State → Prop} {pc : Nat} {ls : List (Option Value)} {st : List Value} {σ : Sg}
theorem am_sum (l : List Value) : ((l.map (am_v G)).map fun v => v.category).sum = (l.map fun v => v.category).sum := by
  rw [List.map_map]
  congr 1
  exact List.map_congr_left fun v _ => am_v_cat G v
theorem am_callv (X : am_X G M d K) {d' idx k ci n : Nat} {y : MethodName} {M' : Mi} {As rest : List Value} {Q' : Option Value → Sg → Prop} {fs : List (Option Nat)} {q : vw_C} (hd : decode M.2.1 pc = .ok (.invokevirtual idx, 3)) (hw : am_cv M.1 idx y M' n) (hC : am_Ct G d' y M' (.ref k :: As) σ Q') (hdd : d' + 1 ≤ d) (hs : am_shp[k]? = some (.inl (ci, fs))) (hc : vwCl[ci]? = some q) (hqy : q.1 = y.cls) (hn : As.length = n) (hst : As.reverse ++ .ref k :: rest = st) (hsm : (rest.map fun v => v.category).sum ≤ 8) (kk : ∀ (r : Option Value) (σ' : Sg), Q' r σ' → am_W G K Qe (pc + 3) ls (r.toList ++ rest) σ') : am_W G K Qe pc ls st σ := by
  obtain ⟨p, e, R, s, m, sa, below, meth, c, cells, slots⟩ := K
  intro H locs lsC hS hP hL
  obtain ⟨hx, hb, hml, hown, hts, -, -, hF, hz, ⟨hr1, hr2, hr3, hr4⟩, hG⟩ := X
  obtain ⟨⟨w1, w2, w3, w4, w5⟩, w6, w7⟩ := hw
  have hP' : va_P G.2.1 vwCl (am_w G σ) H := hP
  obtain ⟨cell, g1, g2, g3⟩ := va_recv hF.1 hP' hc (q0 := k) (a := am_ad G k) (by rw [am_get (am_lt hs), am_e_obj hs])
  subst hst
  have hls : lsC.size = M.2.2.1 := by
    obtain ⟨l, h1, -⟩ := hL
    rw [← hml]
    exact h1.1
  refine am_after (restC := rest.map (am_v G)) (va_runV (As := As.map (am_v G)) (rest := rest.map (am_v G)) (b := am_ad G k) (C := y.cls) (cc := M.2.1) (nL := M.2.2.1) (own := M.1) ⟨hx, hb, hml, hown, hts⟩ hC
    ⟨callB_of n hts (am_good w3) rfl rfl rfl (hts _ w2) (hts _ w1) w5 ⟨by show d' + 1 ≤ R.frames; omega, by show 8 + (M'.2.2.1 + 11) + 40 * d' ≤ R.locals; omega⟩, hts _ w6, hts _ w7⟩
    ⟨am_blind, ⟨cell, g1, g2, by rw [← hqy]; exact g3⟩, fun U hU hW => ⟨rfl, by rw [hU]; exact hP, by rw [hU]; exact (hF.warm hW).kept (fun a h1 h2 => hS.2.1 a h1 h2), by rw [hU]; exact Nat.le_trans hz hS.1⟩⟩ rfl (by simp [hn]) hls (by simp [am_v]) ?_ hd ⟨hr3, hr4⟩) hS fun r σ' H1 locs1 hq hP1 hS1 => ?_
  · rw [am_sum]
    show 2 * 0 + _ ≤ 8
    omega
  · have := kk r σ' hq H1 locs1 lsC hS1 hP1 hL
    cases r <;> simpa using this
theorem am_calls (X : am_X G M d K) {d' idx n : Nat} {y : MethodName} {M' : Mi} {As rest : List Value} {Q' : Option Value → Sg → Prop} (hd : decode M.2.1 pc = .ok (.invokestatic idx, 3)) (hw : am_cs M.1 idx y M' n) (hC : am_Ct G d' y M' As σ Q') (hdd : d' + 1 ≤ d) (hn : As.length = n) (hst : As.reverse ++ rest = st) (hsm : (rest.map fun v => v.category).sum ≤ 8) (kk : ∀ (r : Option Value) (σ' : Sg), Q' r σ' → am_W G K Qe (pc + 3) ls (r.toList ++ rest) σ') : am_W G K Qe pc ls st σ := by
  obtain ⟨p, e, R, s, m, sa, below, meth, c, cells, slots⟩ := K
  intro H locs lsC hS hP hL
  obtain ⟨hx, hb, hml, hown, hts, -, -, hF, hz, ⟨hr1, hr2, hr3, hr4⟩, hG⟩ := X
  obtain ⟨⟨w1, w2, w3, w4, w5⟩, w6⟩ := hw
  subst hst
  have hls : lsC.size = M.2.2.1 := by
    obtain ⟨l, h1, -⟩ := hL
    rw [← hml]
    exact h1.1
  refine am_after (restC := rest.map (am_v G)) (va_runS (As := As.map (am_v G)) (rest := rest.map (am_v G)) (cc := M.2.1) (nL := M.2.2.1) (own := M.1) ⟨hx, hb, hml, hown, hts⟩ hC
    ⟨callB_of n hts (am_good w3) rfl rfl rfl (hts _ w2) (hts _ w1) w5 ⟨by show d' + 1 ≤ R.frames; omega, by show 8 + (M'.2.2.1 + 11) + 40 * d' ≤ R.locals; omega⟩, hts _ w6⟩
    ⟨am_blind, fun U hU hW => ⟨rfl, by rw [hU]; exact hP, by rw [hU]; exact (hF.warm hW).kept (fun a h1 h2 => hS.2.1 a h1 h2), by rw [hU]; exact Nat.le_trans hz hS.1⟩⟩ rfl (by simp [hn]) hls (by simp [am_v]) ?_ hd ⟨hr3, hr4⟩) hS fun r σ' H1 locs1 hq hP1 hS1 => ?_
  · rw [am_sum]
    show 2 * 0 + _ ≤ 8
    omega
  · have := kk r σ' hq H1 locs1 lsC hS1 hP1 hL
    cases r <;> simpa using this
end AMD
/-! more rows: stores that name the new locals; names for computed values; calls by how many they take -/
section AMS
variable {G : Cx} {M : Mi} {d : Nat} {K : Kx} {Qe : State → Prop} {pc : Nat} {ls : List (Option Value)} {st : List Value} {σ : Sg}
theorem am_topi {α : Type} {e : Int32} {B : Int32 → Option α} {r : α} (h : nm e B = some r) (k : ∀ x, B x = some r → am_W G K Qe pc ls (.int x :: st) σ) : am_W G K Qe pc ls (.int e :: st) σ := k e h
theorem am_topl {α : Type} {e : Int64} {B : Int64 → Option α} {r : α} (h : nm e B = some r) (k : ∀ x, B x = some r → am_W G K Qe pc ls (.long x :: st) σ) : am_W G K Qe pc ls (.long e :: st) σ := k e h
theorem am_tops {α : Type} {σ' : Sg} {B : Sg → Option α} {r : α} (h : nm σ' B = some r) (k : ∀ x, B x = some r → am_W G K Qe pc ls st x) : am_W G K Qe pc ls st σ' := k σ' h
theorem am_iinc {α : Type} (X : am_X G M d K) {i : Nat} {n : Int} {x c : Int32} {B : Int32 → Option α} {r : α} {ls' : Int32 → List (Option Value)} (hd : decode M.2.1 pc = .ok (.iinc i n, 3)) (hl : ls[i]? = some (some (.int x))) (h : nm (x + c) B = some r) (hc : Int32.ofInt n = c) (hn : i < M.2.2.1) (hok : am_ok ls i = true) (hls : ∀ v, ls.set i (some (.int v)) = ls' v) (k : ∀ v, B v = some r → am_W G K Qe (pc + 3) (ls' v) st σ) : am_W G K Qe pc ls st σ := by
  refine am_iincK X hd hl rfl hn hok ?_
  rw [hc, hls]
  exact k _ h
theorem am_istore_n (X : am_X G M d K) {n : Fin 4} {i : Nat} {x : Int32} {ls' : List (Option Value)} (hd : decode M.2.1 pc = .ok (.istore_n n, 1)) (hi : (n : Nat) = i) (hn : i < M.2.2.1) (hok : am_ok ls i = true) (hls : ls.set i (some (.int x)) = ls') (k : am_W G K Qe (pc + 1) ls' st σ) : am_W G K Qe pc ls (.int x :: st) σ := am_istore_nK X hd hi hn hok (hls ▸ k)
theorem am_istore (X : am_X G M d K) {i : Nat} {x : Int32} {ls' : List (Option Value)} (hd : decode M.2.1 pc = .ok (.istore i, 2)) (hn : i < M.2.2.1) (hok : am_ok ls i = true) (hls : ls.set i (some (.int x)) = ls') (k : am_W G K Qe (pc + 2) ls' st σ) : am_W G K Qe pc ls (.int x :: st) σ := am_istoreK X hd hn hok (hls ▸ k)
theorem am_astore_n (X : am_X G M d K) {n : Fin 4} {i : Nat} {x : Nat} {ls' : List (Option Value)} (hd : decode M.2.1 pc = .ok (.astore_n n, 1)) (hi : (n : Nat) = i) (hn : i < M.2.2.1) (hok : am_ok ls i = true) (hls : ls.set i (some (.ref x)) = ls') (k : am_W G K Qe (pc + 1) ls' st σ) : am_W G K Qe pc ls (.ref x :: st) σ := am_astore_nK X hd hi hn hok (hls ▸ k)
theorem am_astore (X : am_X G M d K) {i : Nat} {x : Nat} {ls' : List (Option Value)} (hd : decode M.2.1 pc = .ok (.astore i, 2)) (hn : i < M.2.2.1) (hok : am_ok ls i = true) (hls : ls.set i (some (.ref x)) = ls') (k : am_W G K Qe (pc + 2) ls' st σ) : am_W G K Qe pc ls (.ref x :: st) σ := am_astoreK X hd hn hok (hls ▸ k)
theorem am_lstore_n (X : am_X G M d K) {n : Fin 4} {i : Nat} {x : Int64} {ls' : List (Option Value)} (hd : decode M.2.1 pc = .ok (.lstore_n n, 1)) (hi : (n : Nat) = i) (hn : i + 1 < M.2.2.1) (hok : am_ok ls i = true) (hls : (ls.set i (some (.long x))).set (i + 1) none = ls') (k : am_W G K Qe (pc + 1) ls' st σ) : am_W G K Qe pc ls (.long x :: st) σ := am_lstore_nK X hd hi hn hok (hls ▸ k)
theorem am_lstore (X : am_X G M d K) {i : Nat} {x : Int64} {ls' : List (Option Value)} (hd : decode M.2.1 pc = .ok (.lstore i, 2)) (hn : i + 1 < M.2.2.1) (hok : am_ok ls i = true) (hls : (ls.set i (some (.long x))).set (i + 1) none = ls') (k : am_W G K Qe (pc + 2) ls' st σ) : am_W G K Qe pc ls (.long x :: st) σ := am_lstoreK X hd hn hok (hls ▸ k)
def am_fp (own : String) (idx ci j : Nat) (ft : FieldType) : Prop := ∃ (C : String) (T : u_T) (N : Nat) (ty : Nat → FieldType), vwCl[ci]? = some (C, T, N) ∧ j < N ∧ (∀ w ∈ u_ws C T N, w ∈ wsL_law) ∧ Cond.fieldLink own idx (T j).1 (T j).2.1 (T j).2.2.1 ∈ wsL_law ∧ (∀ k, k < N → parseFieldDescriptor (T k).2.2.1 = some (ty k)) ∧ (∀ a, a < N → ∀ b, b < N → a ≠ b → (T a).2.1 ≠ (T b).2.1) ∧ (T j).2.2.2 = false ∧ ty j = ft
def nbz (x : Int32) : Bool := decide (vp_nar .boolean x = x)
theorem nbz_eq {x : Int32} (h : nbz x = true) : vp_nar .boolean x = x := of_decide_eq_true h
theorem nbz_nar {x : Int32} (h2 : vp_nar .boolean x = x) : narrow .boolean (.int x) = .int x := by
  unfold vp_nar at h2
  revert h2
  cases hnn : narrow .boolean (.int x) with
  | int y => intro h2; dsimp only at h2; rw [h2]
  | _ => simp [narrow] at hnn
theorem am_fv_set {G : Cx} {σ : Sg} {k j : Nat} {x : Int32} {fs : List (Option Nat)} (hv : fs[j]? = some none) : ((List.range fs.length).map (am_fv G (σ.1 k) fs)).set j (.int x) = (List.range fs.length).map (am_fv G ((srg σ k j x).1 k) fs) := by
  have hjl : j < fs.length := (List.getElem?_eq_some_iff.mp hv).1
  apply List.ext_getElem?
  intro i
  by_cases hi : i = j
  · subst hi
    rw [List.getElem?_set_self (by simp [hjl]), List.getElem?_map, List.getElem?_range hjl]
    simp [am_fv, hv, srg, up2]
  · rw [List.getElem?_set_ne (Ne.symm hi), List.getElem?_map, List.getElem?_map]
    by_cases hil : i < fs.length
    · rw [List.getElem?_range hil]
      simp only [Option.map_some, am_fv, srg, up2_self, if_neg hi]
    · rw [List.getElem?_eq_none (by simp; omega)]
      rfl
theorem am_putf (X : am_X G M d K) {k idx ci j : Nat} {fs : List (Option Nat)} {x : Int32} {ft : FieldType} (hd : decode M.2.1 pc = .ok (.putfield idx, 3)) (hf : am_fp M.1 idx ci j ft) (hs : am_shp[k]? = some (.inl (ci, fs))) (hv : fs[j]? = some none) (hnf : narrow ft (.int x) = .int x ∧ fits ft (.int x) = true) (kk : am_W G K Qe (pc + 3) ls st (srg σ k j x)) : am_W G K Qe pc ls (.int x :: .ref k :: st) σ := by
  obtain ⟨p, e, R, s, m, sa, below, meth, c, cells, slots⟩ := K
  intro H locs lsC hS hP hL
  obtain ⟨C, T, N, ty, hc, hjN, hin, hl, hty, hnm, hff, hft⟩ := hf
  have hts := X.2.2.2.2.1
  have hG := X.2.2.2.2.2.2.2.2.2.2
  have hjl : j < fs.length := (List.getElem?_eq_some_iff.mp hv).1
  have hpd := hty j hjN
  rw [hft] at hpd
  refine va_put X.1 X.2.1 hts hin ty hty hnm X.2.2.2.1 X.2.2.2.2.2.2.2.1.1 hP (am_D hG) hS k (by rw [am_get (am_lt hs), am_e_obj hs]) hc j hjN (hts _ hl) (fun _ h9 => h9) hff hpd hnf.1 hnf.2 (by simp [hjl]) hd fun H1 locs1 hP1 hD1 hS1 => ?_
  refine kk H1 locs1 lsC hS1 ?_ hL
  rw [am_set (σ := σ) (σ' := srg σ k j x) (am_lt hs) (fun i hi => am_e_congr (up2_ne hi) rfl rfl)] at hP1
  · exact hP1
  · rw [am_e_obj hs]
    exact congrArg (fun l => Sum.inr (ci, l)) (am_fv_set hv)
theorem am_putfi (X : am_X G M d K) {k idx ci j : Nat} {fs : List (Option Nat)} {x : Int32} (hd : decode M.2.1 pc = .ok (.putfield idx, 3)) (hf : am_fp M.1 idx ci j .int) (hs : am_shp[k]? = some (.inl (ci, fs))) (hv : fs[j]? = some none) (kk : am_W G K Qe (pc + 3) ls st (srg σ k j x)) : am_W G K Qe pc ls (.int x :: .ref k :: st) σ := am_putf X hd hf hs hv ⟨rfl, rfl⟩ kk
theorem nbz_01 {x : Int32} (h : vp_nar .boolean x = x) : x = 0 ∨ x = 1 := by
  have e : vp_nar .boolean x = x &&& 1 := rfl
  rw [e] at h
  obtain ⟨j, hj, hx⟩ := pk_andE x (m := 1) 1 (by decide)
  rw [h] at hx
  rcases (show j = 0 ∨ j = 1 by omega) with rfl | rfl
  · exact Or.inl hx
  · exact Or.inr hx
theorem am_putfz (X : am_X G M d K) {k idx ci j : Nat} {fs : List (Option Nat)} {x : Int32} (hd : decode M.2.1 pc = .ok (.putfield idx, 3)) (hf : am_fp M.1 idx ci j .boolean) (hs : am_shp[k]? = some (.inl (ci, fs))) (hv : fs[j]? = some none) (hb : vp_nar .boolean x = x) (kk : am_W G K Qe (pc + 3) ls st (srg σ k j x)) : am_W G K Qe pc ls (.int x :: .ref k :: st) σ := am_putf X hd hf hs hv ⟨nbz_nar hb, by rcases nbz_01 hb with rfl | rfl <;> decide⟩ kk
theorem am_alen (X : am_X G M d K) {k t n : Nat} {v : Int32} (hd : decode M.2.1 pc = .ok (.arraylength, 1)) (hs : am_shp[k]? = some (.inr (t, n))) (hv : Int32.ofNat n = v) (kk : am_W G K Qe (pc + 1) ls (.int v :: st) σ) : am_W G K Qe pc ls (.ref k :: st) σ := by
  obtain ⟨p, e, R, s, m, sa, below, meth, c, cells, slots⟩ := K
  intro H locs lsC hS hP hL
  have hK := X.2.2.2.2.2.2.2.1.1
  match t, hs with
  | 0, hs => exact va_alen X.1 X.2.1 hK hP k 0 (by rw [am_get (am_lt hs), am_e_i hs] <;> rfl) rfl hv hd (kk H locs lsC hS hP hL)
  | 1, hs => exact va_alen X.1 X.2.1 hK hP k 1 (by rw [am_get (am_lt hs), am_e_l hs] <;> rfl) rfl hv hd (kk H locs lsC hS hP hL)
  | 2, hs => exact va_alen X.1 X.2.1 hK hP k 2 (by rw [am_get (am_lt hs), am_e_z hs] <;> rfl) rfl hv hd (kk H locs lsC hS hP hL)
  | t + 3, hs =>
    exfalso
    have h1 : am_shp.all (fun x => match x with | .inr (t, _) => decide (t < 3) | _ => true) = true := by decide
    have h2 := List.all_eq_true.mp h1 _ (List.mem_of_getElem? hs)
    have h3 : t + 3 < 3 := of_decide_eq_true h2
    omega
theorem am_tabIn (X : am_X G M d K) {dflt lo hi : Int} {offs : Array Int} {len : Nat} {x v : Int32} {off : Int} {tgt : Nat} (hd : decode M.2.1 pc = .ok (.tableswitch dflt lo hi offs, len)) (hx : x = v) (h1 : ¬ v.toInt < lo) (h2 : ¬ hi < v.toInt) (ho : offs[(v.toInt - lo).toNat]? = some off) (ht : (pc : Int) + off = (tgt : Int)) (k : am_W G K Qe tgt ls st σ) : am_W G K Qe pc ls (.int x :: st) σ := by
  subst hx
  exact am_tableIn X hd h1 h2 ho ht k
theorem am_tabOut (X : am_X G M d K) {dflt lo hi : Int} {offs : Array Int} {len : Nat} {x : Int32} {vs : List Int32} {tgt : Nat} (hd : decode M.2.1 pc = .ok (.tableswitch dflt lo hi offs, len)) (hx : ∀ v ∈ vs, ¬ x = v) (hv : vs = (List.range (hi - lo + 1).toNat).map (fun j : Nat => Int32.ofInt (lo + j))) (ht : (pc : Int) + dflt = (tgt : Int)) (k : am_W G K Qe tgt ls st σ) : am_W G K Qe pc ls (.int x :: st) σ := by
  refine am_tableOut X hd ?_ ht k
  by_cases h1 : x.toInt < lo
  · exact Or.inl h1
  · by_cases h2 : hi < x.toInt
    · exact Or.inr h2
    · exfalso
      refine hx x ?_ rfl
      rw [hv]
      refine List.mem_map.mpr ⟨(x.toInt - lo).toNat, List.mem_range.mpr (by omega), ?_⟩
      rw [show lo + ((x.toInt - lo).toNat : Int) = x.toInt by omega]
      exact Int32.ofInt_toInt _
theorem am_lkIn (X : am_X G M d K) {dflt : Int} {ps : Array (Int × Int)} {len : Nat} {x v : Int32} {off : Int} {tgt : Nat} (hd : decode M.2.1 pc = .ok (.lookupswitch dflt ps, len)) (hx : x = v) (hp : (ps.toList.zip (ps.toList.drop 1)).all (fun (a, next) => a.1 < next.1) = true) (ho : Op.lookupswitch.offset ps.toList dflt v.toInt = off) (ht : (pc : Int) + off = (tgt : Int)) (k : am_W G K Qe tgt ls st σ) : am_W G K Qe pc ls (.int x :: st) σ := by
  subst hx
  exact am_lookup X hd hp ho ht k
theorem am_lkD {dflt : Int} {x : Int32} : ∀ (l : List (Int × Int)) (vs : List Int32), vs.map (fun v => v.toInt) = l.map (fun q => q.1) → (∀ v ∈ vs, ¬ x = v) → Op.lookupswitch.offset l dflt x.toInt = dflt
  | [], _, _, _ => rfl
  | (a, o) :: l, [], h, _ => by cases h
  | (a, o) :: l, v :: vs, h, hx => by
    rw [Op.lookupswitch.offset_cons, if_neg, am_lkD l vs (List.cons.inj h).2 (fun w hw => hx w (List.mem_cons_of_mem _ hw))]
    intro e
    refine hx v List.mem_cons_self (Int32.toInt_inj.mp ?_)
    exact ((List.cons.inj h).1.trans e).symm
theorem am_lkOut (X : am_X G M d K) {dflt : Int} {ps : Array (Int × Int)} {len : Nat} {x : Int32} {vs : List Int32} {tgt : Nat} (hd : decode M.2.1 pc = .ok (.lookupswitch dflt ps, len)) (hx : ∀ v ∈ vs, ¬ x = v) (hp : (ps.toList.zip (ps.toList.drop 1)).all (fun (a, next) => a.1 < next.1) = true) (hv : vs.map (fun v => v.toInt) = ps.toList.map (fun q => q.1)) (ht : (pc : Int) + dflt = (tgt : Int)) (k : am_W G K Qe tgt ls st σ) : am_W G K Qe pc ls (.int x :: st) σ := am_lookup X hd hp (am_lkD _ _ hv hx) ht k
def iabs (x : Int32) : Int32 := if 0 ≤ x then x else 0 - x
def imin (x y : Int32) : Int32 := if y < x then y else x
theorem am_abs (X : am_X G M d K) {idx : Nat} {x : Int32} (hd : decode M.2.1 pc = .ok (.invokestatic idx, 3)) (hw : Cond.methodLink M.1 idx Lib.Math.abs.name ∈ wsL_law) (hsm : 1 ≤ d ∧ (st.map fun v => v.category).sum ≤ 8) (k : am_W G K Qe (pc + 3) ls (.int (iabs x) :: st) σ) : am_W G K Qe pc ls (.int x :: st) σ := by
  obtain ⟨p, e, R, s, m, sa, below, meth, c, cells, slots⟩ := K
  intro H locs lsC hS hP hL
  have hts := X.2.2.2.2.1
  obtain ⟨hr1, hr2, hr3, hr4⟩ := X.2.2.2.2.2.2.2.2.2.1
  exact va_mabs X.1 X.2.1 (by obtain ⟨l, h1, -⟩ := hL; exact h1.1.symm) X.2.2.2.1 (hts _ hw) (hts _ wx_abs.1) (hts _ wx_abs.2.1) (hts _ wx_abs.2.2) (by omega) (by rw [am_sum]; omega) hr3 hr4 hd (k H locs lsC hS hP hL)
theorem am_min (X : am_X G M d K) {idx : Nat} {x y : Int32} (hd : decode M.2.1 pc = .ok (.invokestatic idx, 3)) (hw : Cond.methodLink M.1 idx Lib.Math.min.name ∈ wsL_law) (hsm : 1 ≤ d ∧ (st.map fun v => v.category).sum ≤ 8) (k : am_W G K Qe (pc + 3) ls (.int (imin x y) :: st) σ) : am_W G K Qe pc ls (.int y :: .int x :: st) σ := by
  obtain ⟨p, e, R, s, m, sa, below, meth, c, cells, slots⟩ := K
  intro H locs lsC hS hP hL
  have hts := X.2.2.2.2.1
  obtain ⟨hr1, hr2, hr3, hr4⟩ := X.2.2.2.2.2.2.2.2.2.1
  exact va_mmin X.1 X.2.1 (by obtain ⟨l, h1, -⟩ := hL; exact h1.1.symm) X.2.2.2.1 (hts _ hw) (hts _ wx_min.1) (hts _ wx_min.2.1) (hts _ wx_min.2.2) (by omega) (by rw [am_sum]; omega) hr3 hr4 hd (k H locs lsC hS hP hL)
theorem am_nfw : nativeFrameWords "java/lang/System" "arraycopy" 5 ≤ 20 := by decide +kernel
theorem am_copyi (X : am_X G M d K) {idx k0 k1 n0 n1 n : Nat} (hd : decode M.2.1 pc = .ok (.invokestatic idx, 3)) (hw : Cond.methodLink M.1 idx arraycopyName ∈ wsL_law) (hs0 : am_shp[k0]? = some (.inr (0, n0))) (hs1 : am_shp[k1]? = some (.inr (0, n1))) (h0 : n ≤ n0) (h1 : n ≤ n1) (hn : n < 2 ^ 31) (hsm : 1 ≤ d ∧ (st.map fun v => v.category).sum ≤ 8) (k : am_W G K Qe (pc + 3) ls st (srow σ k1 (va_cpy (ar σ k0) (ar σ k1) 0 0 n))) : am_W G K Qe pc ls (.int (nI n) :: .int 0 :: .ref k1 :: .int 0 :: .ref k0 :: st) σ := by
  obtain ⟨p, e, R, s, m, sa, below, meth, c, cells, slots⟩ := K
  intro H locs lsC hS hP hL
  have hts := X.2.2.2.2.1
  obtain ⟨hr1, hr2, hr3, hr4⟩ := X.2.2.2.2.2.2.2.2.2.1
  have hz : (0 : Int32).toNatClampNeg = 0 := rfl
  have hc : (nI n).toNatClampNeg = n := nI_clamp hn
  refine va_copyi X.1 X.2.1 (by obtain ⟨l, h1, -⟩ := hL; exact h1.1.symm) X.2.2.2.1 (hts _ hw) (hts _ wx_copy.1) (hts _ wx_copy.2.1) (hts _ wx_copy.2.2) X.2.2.2.2.2.2.2.1.1 hP (am_D X.2.2.2.2.2.2.2.2.2.2) hS k0 k1 0 0 (by rw [am_get (am_lt hs0), am_e_i hs0] <;> rfl) (by rw [am_get (am_lt hs1), am_e_i hs1] <;> rfl) rfl rfl rfl (show ¬ (0 : Int32) < 0 by decide) (show ¬ (0 : Int32) < 0 by decide) (nI_pos hn) (by rw [hz, hc]; omega) (by rw [hz, hc]; omega) (fun _ _ => rfl) (by omega) (by rw [am_sum]; have := am_nfw; omega) hd fun H1 locs1 hP1 hD1 hS1 => ?_
  refine k H1 locs1 lsC hS1 ?_ hL
  rw [hz, hc] at hP1
  rw [am_set (σ := σ) (σ' := srow σ k1 (va_cpy (ar σ k0) (ar σ k1) 0 0 n)) (am_lt hs1) (fun j hj => am_e_congr rfl (uprow_ne hj) rfl)] at hP1
  · exact hP1
  · rw [am_e_i hs1]
    simp only [srow, uprow_self]
    rfl
theorem am_copyl (X : am_X G M d K) {idx k0 k1 n0 n1 n : Nat} (hd : decode M.2.1 pc = .ok (.invokestatic idx, 3)) (hw : Cond.methodLink M.1 idx arraycopyName ∈ wsL_law) (hs0 : am_shp[k0]? = some (.inr (1, n0))) (hs1 : am_shp[k1]? = some (.inr (1, n1))) (h0 : n ≤ n0) (h1 : n ≤ n1) (hn : n < 2 ^ 31) (hsm : 1 ≤ d ∧ (st.map fun v => v.category).sum ≤ 8) (k : am_W G K Qe (pc + 3) ls st (srowl σ k1 (va_cpy (al σ k0) (al σ k1) 0 0 n))) : am_W G K Qe pc ls (.int (nI n) :: .int 0 :: .ref k1 :: .int 0 :: .ref k0 :: st) σ := by
  obtain ⟨p, e, R, s, m, sa, below, meth, c, cells, slots⟩ := K
  intro H locs lsC hS hP hL
  have hts := X.2.2.2.2.1
  obtain ⟨hr1, hr2, hr3, hr4⟩ := X.2.2.2.2.2.2.2.2.2.1
  have hz : (0 : Int32).toNatClampNeg = 0 := rfl
  have hc : (nI n).toNatClampNeg = n := nI_clamp hn
  refine va_copyl X.1 X.2.1 (by obtain ⟨l, h1, -⟩ := hL; exact h1.1.symm) X.2.2.2.1 (hts _ hw) (hts _ wx_copy.1) (hts _ wx_copy.2.1) (hts _ wx_copy.2.2) X.2.2.2.2.2.2.2.1.1 hP (am_D X.2.2.2.2.2.2.2.2.2.2) hS k0 k1 1 1 (by rw [am_get (am_lt hs0), am_e_l hs0] <;> rfl) (by rw [am_get (am_lt hs1), am_e_l hs1] <;> rfl) rfl rfl rfl (show ¬ (0 : Int32) < 0 by decide) (show ¬ (0 : Int32) < 0 by decide) (nI_pos hn) (by rw [hz, hc]; omega) (by rw [hz, hc]; omega) (fun _ _ => rfl) (by omega) (by rw [am_sum]; have := am_nfw; omega) hd fun H1 locs1 hP1 hD1 hS1 => ?_
  refine k H1 locs1 lsC hS1 ?_ hL
  rw [hz, hc] at hP1
  rw [am_set (σ := σ) (σ' := srowl σ k1 (va_cpy (al σ k0) (al σ k1) 0 0 n)) (am_lt hs1) (fun j hj => am_e_congr rfl rfl (uprow_ne hj))] at hP1
  · exact hP1
  · rw [am_e_l hs1]
    simp only [srowl, uprow_self]
    rfl
def bd2 {α β γ : Type} (o : Option (α × β)) (k : α → β → Option γ) : Option γ := match o with
  | none => none
  | some p => k p.1 p.2
theorem bd2_some {α β γ : Type} {o : Option (α × β)} {k : α → β → Option γ} {r : γ} (h : bd2 o k = some r) : ∃ x y, o = some (x, y) ∧ k x y = some r := by
  cases o with
  | none => cases h
  | some p => exact ⟨p.1, p.2, rfl, h⟩
def am_qi (v : Int32) (σ1 : Sg) : Option Value → Sg → Prop := fun r σ' => r = some (.int v) ∧ σ' = σ1
def am_ql (v : Int64) (σ1 : Sg) : Option Value → Sg → Prop := fun r σ' => r = some (.long v) ∧ σ' = σ1
def am_qv (σ1 : Sg) : Option Value → Sg → Prop := fun r σ' => r = none ∧ σ' = σ1
theorem am_callv_i0 (X : am_X G M d K) {d' idx k ci : Nat} {y : MethodName} {M' : Mi} {rest : List Value} {v : Int32} {σ1 : Sg} {fs : List (Option Nat)} {q : vw_C} (hd : decode M.2.1 pc = .ok (.invokevirtual idx, 3)) (hw : am_cv M.1 idx y M' 0) (hC : am_Ct G d' y M' [.ref k] σ (am_qi v σ1)) (hdd : d' + 1 ≤ d) (hs : am_shp[k]? = some (.inl (ci, fs))) (hc : vwCl[ci]? = some q) (hqy : q.1 = y.cls) (hn : True = True) (hsm : (rest.map fun v => v.category).sum ≤ 8) (kk : am_W G K Qe (pc + 3) ls (.int v :: rest) σ1) : am_W G K Qe pc ls (.ref k :: rest) σ := am_callv (As := []) X hd hw hC hdd hs hc hqy rfl rfl hsm (fun r σ' hq => by obtain ⟨rfl, rfl⟩ := hq; exact kk)
theorem am_callv_l0 (X : am_X G M d K) {d' idx k ci : Nat} {y : MethodName} {M' : Mi} {rest : List Value} {v : Int64} {σ1 : Sg} {fs : List (Option Nat)} {q : vw_C} (hd : decode M.2.1 pc = .ok (.invokevirtual idx, 3)) (hw : am_cv M.1 idx y M' 0) (hC : am_Ct G d' y M' [.ref k] σ (am_ql v σ1)) (hdd : d' + 1 ≤ d) (hs : am_shp[k]? = some (.inl (ci, fs))) (hc : vwCl[ci]? = some q) (hqy : q.1 = y.cls) (hn : True = True) (hsm : (rest.map fun v => v.category).sum ≤ 8) (kk : am_W G K Qe (pc + 3) ls (.long v :: rest) σ1) : am_W G K Qe pc ls (.ref k :: rest) σ := am_callv (As := []) X hd hw hC hdd hs hc hqy rfl rfl hsm (fun r σ' hq => by obtain ⟨rfl, rfl⟩ := hq; exact kk)
theorem am_callv_v0 (X : am_X G M d K) {d' idx k ci : Nat} {y : MethodName} {M' : Mi} {rest : List Value} {σ1 : Sg} {fs : List (Option Nat)} {q : vw_C} (hd : decode M.2.1 pc = .ok (.invokevirtual idx, 3)) (hw : am_cv M.1 idx y M' 0) (hC : am_Ct G d' y M' [.ref k] σ (am_qv σ1)) (hdd : d' + 1 ≤ d) (hs : am_shp[k]? = some (.inl (ci, fs))) (hc : vwCl[ci]? = some q) (hqy : q.1 = y.cls) (hn : True = True) (hsm : (rest.map fun v => v.category).sum ≤ 8) (kk : am_W G K Qe (pc + 3) ls (rest) σ1) : am_W G K Qe pc ls (.ref k :: rest) σ := am_callv (As := []) X hd hw hC hdd hs hc hqy rfl rfl hsm (fun r σ' hq => by obtain ⟨rfl, rfl⟩ := hq; exact kk)
theorem am_callv_i1 (X : am_X G M d K) {d' idx k ci : Nat} {y : MethodName} {M' : Mi} {a0 : Value} {rest : List Value} {v : Int32} {σ1 : Sg} {fs : List (Option Nat)} {q : vw_C} (hd : decode M.2.1 pc = .ok (.invokevirtual idx, 3)) (hw : am_cv M.1 idx y M' 1) (hC : am_Ct G d' y M' [.ref k, a0] σ (am_qi v σ1)) (hdd : d' + 1 ≤ d) (hs : am_shp[k]? = some (.inl (ci, fs))) (hc : vwCl[ci]? = some q) (hqy : q.1 = y.cls) (hn : True = True) (hsm : (rest.map fun v => v.category).sum ≤ 8) (kk : am_W G K Qe (pc + 3) ls (.int v :: rest) σ1) : am_W G K Qe pc ls (a0 :: .ref k :: rest) σ := am_callv (As := [a0]) X hd hw hC hdd hs hc hqy rfl rfl hsm (fun r σ' hq => by obtain ⟨rfl, rfl⟩ := hq; exact kk)
theorem am_calls_i1 (X : am_X G M d K) {d' idx : Nat} {y : MethodName} {M' : Mi} {a0 : Value} {rest : List Value} {v : Int32} {σ1 : Sg} (hd : decode M.2.1 pc = .ok (.invokestatic idx, 3)) (hw : am_cs M.1 idx y M' 1) (hC : am_Ct G d' y M' [a0] σ (am_qi v σ1)) (hdd : d' + 1 ≤ d) (hn : True = True) (hsm : (rest.map fun v => v.category).sum ≤ 8) (kk : am_W G K Qe (pc + 3) ls (.int v :: rest) σ1) : am_W G K Qe pc ls (a0 :: rest) σ := am_calls (As := [a0]) X hd hw hC hdd rfl rfl hsm (fun r σ' hq => by obtain ⟨rfl, rfl⟩ := hq; exact kk)
theorem am_callv_l1 (X : am_X G M d K) {d' idx k ci : Nat} {y : MethodName} {M' : Mi} {a0 : Value} {rest : List Value} {v : Int64} {σ1 : Sg} {fs : List (Option Nat)} {q : vw_C} (hd : decode M.2.1 pc = .ok (.invokevirtual idx, 3)) (hw : am_cv M.1 idx y M' 1) (hC : am_Ct G d' y M' [.ref k, a0] σ (am_ql v σ1)) (hdd : d' + 1 ≤ d) (hs : am_shp[k]? = some (.inl (ci, fs))) (hc : vwCl[ci]? = some q) (hqy : q.1 = y.cls) (hn : True = True) (hsm : (rest.map fun v => v.category).sum ≤ 8) (kk : am_W G K Qe (pc + 3) ls (.long v :: rest) σ1) : am_W G K Qe pc ls (a0 :: .ref k :: rest) σ := am_callv (As := [a0]) X hd hw hC hdd hs hc hqy rfl rfl hsm (fun r σ' hq => by obtain ⟨rfl, rfl⟩ := hq; exact kk)
theorem am_calls_l1 (X : am_X G M d K) {d' idx : Nat} {y : MethodName} {M' : Mi} {a0 : Value} {rest : List Value} {v : Int64} {σ1 : Sg} (hd : decode M.2.1 pc = .ok (.invokestatic idx, 3)) (hw : am_cs M.1 idx y M' 1) (hC : am_Ct G d' y M' [a0] σ (am_ql v σ1)) (hdd : d' + 1 ≤ d) (hn : True = True) (hsm : (rest.map fun v => v.category).sum ≤ 8) (kk : am_W G K Qe (pc + 3) ls (.long v :: rest) σ1) : am_W G K Qe pc ls (a0 :: rest) σ := am_calls (As := [a0]) X hd hw hC hdd rfl rfl hsm (fun r σ' hq => by obtain ⟨rfl, rfl⟩ := hq; exact kk)
theorem am_callv_v1 (X : am_X G M d K) {d' idx k ci : Nat} {y : MethodName} {M' : Mi} {a0 : Value} {rest : List Value} {σ1 : Sg} {fs : List (Option Nat)} {q : vw_C} (hd : decode M.2.1 pc = .ok (.invokevirtual idx, 3)) (hw : am_cv M.1 idx y M' 1) (hC : am_Ct G d' y M' [.ref k, a0] σ (am_qv σ1)) (hdd : d' + 1 ≤ d) (hs : am_shp[k]? = some (.inl (ci, fs))) (hc : vwCl[ci]? = some q) (hqy : q.1 = y.cls) (hn : True = True) (hsm : (rest.map fun v => v.category).sum ≤ 8) (kk : am_W G K Qe (pc + 3) ls (rest) σ1) : am_W G K Qe pc ls (a0 :: .ref k :: rest) σ := am_callv (As := [a0]) X hd hw hC hdd hs hc hqy rfl rfl hsm (fun r σ' hq => by obtain ⟨rfl, rfl⟩ := hq; exact kk)
theorem am_calls_v1 (X : am_X G M d K) {d' idx : Nat} {y : MethodName} {M' : Mi} {a0 : Value} {rest : List Value} {σ1 : Sg} (hd : decode M.2.1 pc = .ok (.invokestatic idx, 3)) (hw : am_cs M.1 idx y M' 1) (hC : am_Ct G d' y M' [a0] σ (am_qv σ1)) (hdd : d' + 1 ≤ d) (hn : True = True) (hsm : (rest.map fun v => v.category).sum ≤ 8) (kk : am_W G K Qe (pc + 3) ls (rest) σ1) : am_W G K Qe pc ls (a0 :: rest) σ := am_calls (As := [a0]) X hd hw hC hdd rfl rfl hsm (fun r σ' hq => by obtain ⟨rfl, rfl⟩ := hq; exact kk)
theorem am_callv_i2 (X : am_X G M d K) {d' idx k ci : Nat} {y : MethodName} {M' : Mi} {a0 a1 : Value} {rest : List Value} {v : Int32} {σ1 : Sg} {fs : List (Option Nat)} {q : vw_C} (hd : decode M.2.1 pc = .ok (.invokevirtual idx, 3)) (hw : am_cv M.1 idx y M' 2) (hC : am_Ct G d' y M' [.ref k, a0, a1] σ (am_qi v σ1)) (hdd : d' + 1 ≤ d) (hs : am_shp[k]? = some (.inl (ci, fs))) (hc : vwCl[ci]? = some q) (hqy : q.1 = y.cls) (hn : True = True) (hsm : (rest.map fun v => v.category).sum ≤ 8) (kk : am_W G K Qe (pc + 3) ls (.int v :: rest) σ1) : am_W G K Qe pc ls (a1 :: a0 :: .ref k :: rest) σ := am_callv (As := [a0, a1]) X hd hw hC hdd hs hc hqy rfl rfl hsm (fun r σ' hq => by obtain ⟨rfl, rfl⟩ := hq; exact kk)
theorem am_calls_i2 (X : am_X G M d K) {d' idx : Nat} {y : MethodName} {M' : Mi} {a0 a1 : Value} {rest : List Value} {v : Int32} {σ1 : Sg} (hd : decode M.2.1 pc = .ok (.invokestatic idx, 3)) (hw : am_cs M.1 idx y M' 2) (hC : am_Ct G d' y M' [a0, a1] σ (am_qi v σ1)) (hdd : d' + 1 ≤ d) (hn : True = True) (hsm : (rest.map fun v => v.category).sum ≤ 8) (kk : am_W G K Qe (pc + 3) ls (.int v :: rest) σ1) : am_W G K Qe pc ls (a1 :: a0 :: rest) σ := am_calls (As := [a0, a1]) X hd hw hC hdd rfl rfl hsm (fun r σ' hq => by obtain ⟨rfl, rfl⟩ := hq; exact kk)
theorem am_callv_l2 (X : am_X G M d K) {d' idx k ci : Nat} {y : MethodName} {M' : Mi} {a0 a1 : Value} {rest : List Value} {v : Int64} {σ1 : Sg} {fs : List (Option Nat)} {q : vw_C} (hd : decode M.2.1 pc = .ok (.invokevirtual idx, 3)) (hw : am_cv M.1 idx y M' 2) (hC : am_Ct G d' y M' [.ref k, a0, a1] σ (am_ql v σ1)) (hdd : d' + 1 ≤ d) (hs : am_shp[k]? = some (.inl (ci, fs))) (hc : vwCl[ci]? = some q) (hqy : q.1 = y.cls) (hn : True = True) (hsm : (rest.map fun v => v.category).sum ≤ 8) (kk : am_W G K Qe (pc + 3) ls (.long v :: rest) σ1) : am_W G K Qe pc ls (a1 :: a0 :: .ref k :: rest) σ := am_callv (As := [a0, a1]) X hd hw hC hdd hs hc hqy rfl rfl hsm (fun r σ' hq => by obtain ⟨rfl, rfl⟩ := hq; exact kk)
theorem am_calls_l2 (X : am_X G M d K) {d' idx : Nat} {y : MethodName} {M' : Mi} {a0 a1 : Value} {rest : List Value} {v : Int64} {σ1 : Sg} (hd : decode M.2.1 pc = .ok (.invokestatic idx, 3)) (hw : am_cs M.1 idx y M' 2) (hC : am_Ct G d' y M' [a0, a1] σ (am_ql v σ1)) (hdd : d' + 1 ≤ d) (hn : True = True) (hsm : (rest.map fun v => v.category).sum ≤ 8) (kk : am_W G K Qe (pc + 3) ls (.long v :: rest) σ1) : am_W G K Qe pc ls (a1 :: a0 :: rest) σ := am_calls (As := [a0, a1]) X hd hw hC hdd rfl rfl hsm (fun r σ' hq => by obtain ⟨rfl, rfl⟩ := hq; exact kk)
theorem am_callv_v2 (X : am_X G M d K) {d' idx k ci : Nat} {y : MethodName} {M' : Mi} {a0 a1 : Value} {rest : List Value} {σ1 : Sg} {fs : List (Option Nat)} {q : vw_C} (hd : decode M.2.1 pc = .ok (.invokevirtual idx, 3)) (hw : am_cv M.1 idx y M' 2) (hC : am_Ct G d' y M' [.ref k, a0, a1] σ (am_qv σ1)) (hdd : d' + 1 ≤ d) (hs : am_shp[k]? = some (.inl (ci, fs))) (hc : vwCl[ci]? = some q) (hqy : q.1 = y.cls) (hn : True = True) (hsm : (rest.map fun v => v.category).sum ≤ 8) (kk : am_W G K Qe (pc + 3) ls (rest) σ1) : am_W G K Qe pc ls (a1 :: a0 :: .ref k :: rest) σ := am_callv (As := [a0, a1]) X hd hw hC hdd hs hc hqy rfl rfl hsm (fun r σ' hq => by obtain ⟨rfl, rfl⟩ := hq; exact kk)
theorem am_calls_v2 (X : am_X G M d K) {d' idx : Nat} {y : MethodName} {M' : Mi} {a0 a1 : Value} {rest : List Value} {σ1 : Sg} (hd : decode M.2.1 pc = .ok (.invokestatic idx, 3)) (hw : am_cs M.1 idx y M' 2) (hC : am_Ct G d' y M' [a0, a1] σ (am_qv σ1)) (hdd : d' + 1 ≤ d) (hn : True = True) (hsm : (rest.map fun v => v.category).sum ≤ 8) (kk : am_W G K Qe (pc + 3) ls (rest) σ1) : am_W G K Qe pc ls (a1 :: a0 :: rest) σ := am_calls (As := [a0, a1]) X hd hw hC hdd rfl rfl hsm (fun r σ' hq => by obtain ⟨rfl, rfl⟩ := hq; exact kk)
theorem am_callv_i3 (X : am_X G M d K) {d' idx k ci : Nat} {y : MethodName} {M' : Mi} {a0 a1 a2 : Value} {rest : List Value} {v : Int32} {σ1 : Sg} {fs : List (Option Nat)} {q : vw_C} (hd : decode M.2.1 pc = .ok (.invokevirtual idx, 3)) (hw : am_cv M.1 idx y M' 3) (hC : am_Ct G d' y M' [.ref k, a0, a1, a2] σ (am_qi v σ1)) (hdd : d' + 1 ≤ d) (hs : am_shp[k]? = some (.inl (ci, fs))) (hc : vwCl[ci]? = some q) (hqy : q.1 = y.cls) (hn : True = True) (hsm : (rest.map fun v => v.category).sum ≤ 8) (kk : am_W G K Qe (pc + 3) ls (.int v :: rest) σ1) : am_W G K Qe pc ls (a2 :: a1 :: a0 :: .ref k :: rest) σ := am_callv (As := [a0, a1, a2]) X hd hw hC hdd hs hc hqy rfl rfl hsm (fun r σ' hq => by obtain ⟨rfl, rfl⟩ := hq; exact kk)
theorem am_calls_i3 (X : am_X G M d K) {d' idx : Nat} {y : MethodName} {M' : Mi} {a0 a1 a2 : Value} {rest : List Value} {v : Int32} {σ1 : Sg} (hd : decode M.2.1 pc = .ok (.invokestatic idx, 3)) (hw : am_cs M.1 idx y M' 3) (hC : am_Ct G d' y M' [a0, a1, a2] σ (am_qi v σ1)) (hdd : d' + 1 ≤ d) (hn : True = True) (hsm : (rest.map fun v => v.category).sum ≤ 8) (kk : am_W G K Qe (pc + 3) ls (.int v :: rest) σ1) : am_W G K Qe pc ls (a2 :: a1 :: a0 :: rest) σ := am_calls (As := [a0, a1, a2]) X hd hw hC hdd rfl rfl hsm (fun r σ' hq => by obtain ⟨rfl, rfl⟩ := hq; exact kk)
theorem am_callv_l3 (X : am_X G M d K) {d' idx k ci : Nat} {y : MethodName} {M' : Mi} {a0 a1 a2 : Value} {rest : List Value} {v : Int64} {σ1 : Sg} {fs : List (Option Nat)} {q : vw_C} (hd : decode M.2.1 pc = .ok (.invokevirtual idx, 3)) (hw : am_cv M.1 idx y M' 3) (hC : am_Ct G d' y M' [.ref k, a0, a1, a2] σ (am_ql v σ1)) (hdd : d' + 1 ≤ d) (hs : am_shp[k]? = some (.inl (ci, fs))) (hc : vwCl[ci]? = some q) (hqy : q.1 = y.cls) (hn : True = True) (hsm : (rest.map fun v => v.category).sum ≤ 8) (kk : am_W G K Qe (pc + 3) ls (.long v :: rest) σ1) : am_W G K Qe pc ls (a2 :: a1 :: a0 :: .ref k :: rest) σ := am_callv (As := [a0, a1, a2]) X hd hw hC hdd hs hc hqy rfl rfl hsm (fun r σ' hq => by obtain ⟨rfl, rfl⟩ := hq; exact kk)
theorem am_calls_l3 (X : am_X G M d K) {d' idx : Nat} {y : MethodName} {M' : Mi} {a0 a1 a2 : Value} {rest : List Value} {v : Int64} {σ1 : Sg} (hd : decode M.2.1 pc = .ok (.invokestatic idx, 3)) (hw : am_cs M.1 idx y M' 3) (hC : am_Ct G d' y M' [a0, a1, a2] σ (am_ql v σ1)) (hdd : d' + 1 ≤ d) (hn : True = True) (hsm : (rest.map fun v => v.category).sum ≤ 8) (kk : am_W G K Qe (pc + 3) ls (.long v :: rest) σ1) : am_W G K Qe pc ls (a2 :: a1 :: a0 :: rest) σ := am_calls (As := [a0, a1, a2]) X hd hw hC hdd rfl rfl hsm (fun r σ' hq => by obtain ⟨rfl, rfl⟩ := hq; exact kk)
theorem am_callv_v3 (X : am_X G M d K) {d' idx k ci : Nat} {y : MethodName} {M' : Mi} {a0 a1 a2 : Value} {rest : List Value} {σ1 : Sg} {fs : List (Option Nat)} {q : vw_C} (hd : decode M.2.1 pc = .ok (.invokevirtual idx, 3)) (hw : am_cv M.1 idx y M' 3) (hC : am_Ct G d' y M' [.ref k, a0, a1, a2] σ (am_qv σ1)) (hdd : d' + 1 ≤ d) (hs : am_shp[k]? = some (.inl (ci, fs))) (hc : vwCl[ci]? = some q) (hqy : q.1 = y.cls) (hn : True = True) (hsm : (rest.map fun v => v.category).sum ≤ 8) (kk : am_W G K Qe (pc + 3) ls (rest) σ1) : am_W G K Qe pc ls (a2 :: a1 :: a0 :: .ref k :: rest) σ := am_callv (As := [a0, a1, a2]) X hd hw hC hdd hs hc hqy rfl rfl hsm (fun r σ' hq => by obtain ⟨rfl, rfl⟩ := hq; exact kk)
theorem am_calls_v3 (X : am_X G M d K) {d' idx : Nat} {y : MethodName} {M' : Mi} {a0 a1 a2 : Value} {rest : List Value} {σ1 : Sg} (hd : decode M.2.1 pc = .ok (.invokestatic idx, 3)) (hw : am_cs M.1 idx y M' 3) (hC : am_Ct G d' y M' [a0, a1, a2] σ (am_qv σ1)) (hdd : d' + 1 ≤ d) (hn : True = True) (hsm : (rest.map fun v => v.category).sum ≤ 8) (kk : am_W G K Qe (pc + 3) ls (rest) σ1) : am_W G K Qe pc ls (a2 :: a1 :: a0 :: rest) σ := am_calls (As := [a0, a1, a2]) X hd hw hC hdd rfl rfl hsm (fun r σ' hq => by obtain ⟨rfl, rfl⟩ := hq; exact kk)
theorem am_callv_i4 (X : am_X G M d K) {d' idx k ci : Nat} {y : MethodName} {M' : Mi} {a0 a1 a2 a3 : Value} {rest : List Value} {v : Int32} {σ1 : Sg} {fs : List (Option Nat)} {q : vw_C} (hd : decode M.2.1 pc = .ok (.invokevirtual idx, 3)) (hw : am_cv M.1 idx y M' 4) (hC : am_Ct G d' y M' [.ref k, a0, a1, a2, a3] σ (am_qi v σ1)) (hdd : d' + 1 ≤ d) (hs : am_shp[k]? = some (.inl (ci, fs))) (hc : vwCl[ci]? = some q) (hqy : q.1 = y.cls) (hn : True = True) (hsm : (rest.map fun v => v.category).sum ≤ 8) (kk : am_W G K Qe (pc + 3) ls (.int v :: rest) σ1) : am_W G K Qe pc ls (a3 :: a2 :: a1 :: a0 :: .ref k :: rest) σ := am_callv (As := [a0, a1, a2, a3]) X hd hw hC hdd hs hc hqy rfl rfl hsm (fun r σ' hq => by obtain ⟨rfl, rfl⟩ := hq; exact kk)
theorem am_calls_i4 (X : am_X G M d K) {d' idx : Nat} {y : MethodName} {M' : Mi} {a0 a1 a2 a3 : Value} {rest : List Value} {v : Int32} {σ1 : Sg} (hd : decode M.2.1 pc = .ok (.invokestatic idx, 3)) (hw : am_cs M.1 idx y M' 4) (hC : am_Ct G d' y M' [a0, a1, a2, a3] σ (am_qi v σ1)) (hdd : d' + 1 ≤ d) (hn : True = True) (hsm : (rest.map fun v => v.category).sum ≤ 8) (kk : am_W G K Qe (pc + 3) ls (.int v :: rest) σ1) : am_W G K Qe pc ls (a3 :: a2 :: a1 :: a0 :: rest) σ := am_calls (As := [a0, a1, a2, a3]) X hd hw hC hdd rfl rfl hsm (fun r σ' hq => by obtain ⟨rfl, rfl⟩ := hq; exact kk)
theorem am_callv_l4 (X : am_X G M d K) {d' idx k ci : Nat} {y : MethodName} {M' : Mi} {a0 a1 a2 a3 : Value} {rest : List Value} {v : Int64} {σ1 : Sg} {fs : List (Option Nat)} {q : vw_C} (hd : decode M.2.1 pc = .ok (.invokevirtual idx, 3)) (hw : am_cv M.1 idx y M' 4) (hC : am_Ct G d' y M' [.ref k, a0, a1, a2, a3] σ (am_ql v σ1)) (hdd : d' + 1 ≤ d) (hs : am_shp[k]? = some (.inl (ci, fs))) (hc : vwCl[ci]? = some q) (hqy : q.1 = y.cls) (hn : True = True) (hsm : (rest.map fun v => v.category).sum ≤ 8) (kk : am_W G K Qe (pc + 3) ls (.long v :: rest) σ1) : am_W G K Qe pc ls (a3 :: a2 :: a1 :: a0 :: .ref k :: rest) σ := am_callv (As := [a0, a1, a2, a3]) X hd hw hC hdd hs hc hqy rfl rfl hsm (fun r σ' hq => by obtain ⟨rfl, rfl⟩ := hq; exact kk)
theorem am_calls_l4 (X : am_X G M d K) {d' idx : Nat} {y : MethodName} {M' : Mi} {a0 a1 a2 a3 : Value} {rest : List Value} {v : Int64} {σ1 : Sg} (hd : decode M.2.1 pc = .ok (.invokestatic idx, 3)) (hw : am_cs M.1 idx y M' 4) (hC : am_Ct G d' y M' [a0, a1, a2, a3] σ (am_ql v σ1)) (hdd : d' + 1 ≤ d) (hn : True = True) (hsm : (rest.map fun v => v.category).sum ≤ 8) (kk : am_W G K Qe (pc + 3) ls (.long v :: rest) σ1) : am_W G K Qe pc ls (a3 :: a2 :: a1 :: a0 :: rest) σ := am_calls (As := [a0, a1, a2, a3]) X hd hw hC hdd rfl rfl hsm (fun r σ' hq => by obtain ⟨rfl, rfl⟩ := hq; exact kk)
theorem am_callv_v4 (X : am_X G M d K) {d' idx k ci : Nat} {y : MethodName} {M' : Mi} {a0 a1 a2 a3 : Value} {rest : List Value} {σ1 : Sg} {fs : List (Option Nat)} {q : vw_C} (hd : decode M.2.1 pc = .ok (.invokevirtual idx, 3)) (hw : am_cv M.1 idx y M' 4) (hC : am_Ct G d' y M' [.ref k, a0, a1, a2, a3] σ (am_qv σ1)) (hdd : d' + 1 ≤ d) (hs : am_shp[k]? = some (.inl (ci, fs))) (hc : vwCl[ci]? = some q) (hqy : q.1 = y.cls) (hn : True = True) (hsm : (rest.map fun v => v.category).sum ≤ 8) (kk : am_W G K Qe (pc + 3) ls (rest) σ1) : am_W G K Qe pc ls (a3 :: a2 :: a1 :: a0 :: .ref k :: rest) σ := am_callv (As := [a0, a1, a2, a3]) X hd hw hC hdd hs hc hqy rfl rfl hsm (fun r σ' hq => by obtain ⟨rfl, rfl⟩ := hq; exact kk)
theorem am_calls_v4 (X : am_X G M d K) {d' idx : Nat} {y : MethodName} {M' : Mi} {a0 a1 a2 a3 : Value} {rest : List Value} {σ1 : Sg} (hd : decode M.2.1 pc = .ok (.invokestatic idx, 3)) (hw : am_cs M.1 idx y M' 4) (hC : am_Ct G d' y M' [a0, a1, a2, a3] σ (am_qv σ1)) (hdd : d' + 1 ≤ d) (hn : True = True) (hsm : (rest.map fun v => v.category).sum ≤ 8) (kk : am_W G K Qe (pc + 3) ls (rest) σ1) : am_W G K Qe pc ls (a3 :: a2 :: a1 :: a0 :: rest) σ := am_calls (As := [a0, a1, a2, a3]) X hd hw hC hdd rfl rfl hsm (fun r σ' hq => by obtain ⟨rfl, rfl⟩ := hq; exact kk)
theorem am_callv_i5 (X : am_X G M d K) {d' idx k ci : Nat} {y : MethodName} {M' : Mi} {a0 a1 a2 a3 a4 : Value} {rest : List Value} {v : Int32} {σ1 : Sg} {fs : List (Option Nat)} {q : vw_C} (hd : decode M.2.1 pc = .ok (.invokevirtual idx, 3)) (hw : am_cv M.1 idx y M' 5) (hC : am_Ct G d' y M' [.ref k, a0, a1, a2, a3, a4] σ (am_qi v σ1)) (hdd : d' + 1 ≤ d) (hs : am_shp[k]? = some (.inl (ci, fs))) (hc : vwCl[ci]? = some q) (hqy : q.1 = y.cls) (hn : True = True) (hsm : (rest.map fun v => v.category).sum ≤ 8) (kk : am_W G K Qe (pc + 3) ls (.int v :: rest) σ1) : am_W G K Qe pc ls (a4 :: a3 :: a2 :: a1 :: a0 :: .ref k :: rest) σ := am_callv (As := [a0, a1, a2, a3, a4]) X hd hw hC hdd hs hc hqy rfl rfl hsm (fun r σ' hq => by obtain ⟨rfl, rfl⟩ := hq; exact kk)
theorem am_calls_i5 (X : am_X G M d K) {d' idx : Nat} {y : MethodName} {M' : Mi} {a0 a1 a2 a3 a4 : Value} {rest : List Value} {v : Int32} {σ1 : Sg} (hd : decode M.2.1 pc = .ok (.invokestatic idx, 3)) (hw : am_cs M.1 idx y M' 5) (hC : am_Ct G d' y M' [a0, a1, a2, a3, a4] σ (am_qi v σ1)) (hdd : d' + 1 ≤ d) (hn : True = True) (hsm : (rest.map fun v => v.category).sum ≤ 8) (kk : am_W G K Qe (pc + 3) ls (.int v :: rest) σ1) : am_W G K Qe pc ls (a4 :: a3 :: a2 :: a1 :: a0 :: rest) σ := am_calls (As := [a0, a1, a2, a3, a4]) X hd hw hC hdd rfl rfl hsm (fun r σ' hq => by obtain ⟨rfl, rfl⟩ := hq; exact kk)
theorem am_callv_l5 (X : am_X G M d K) {d' idx k ci : Nat} {y : MethodName} {M' : Mi} {a0 a1 a2 a3 a4 : Value} {rest : List Value} {v : Int64} {σ1 : Sg} {fs : List (Option Nat)} {q : vw_C} (hd : decode M.2.1 pc = .ok (.invokevirtual idx, 3)) (hw : am_cv M.1 idx y M' 5) (hC : am_Ct G d' y M' [.ref k, a0, a1, a2, a3, a4] σ (am_ql v σ1)) (hdd : d' + 1 ≤ d) (hs : am_shp[k]? = some (.inl (ci, fs))) (hc : vwCl[ci]? = some q) (hqy : q.1 = y.cls) (hn : True = True) (hsm : (rest.map fun v => v.category).sum ≤ 8) (kk : am_W G K Qe (pc + 3) ls (.long v :: rest) σ1) : am_W G K Qe pc ls (a4 :: a3 :: a2 :: a1 :: a0 :: .ref k :: rest) σ := am_callv (As := [a0, a1, a2, a3, a4]) X hd hw hC hdd hs hc hqy rfl rfl hsm (fun r σ' hq => by obtain ⟨rfl, rfl⟩ := hq; exact kk)
theorem am_calls_l5 (X : am_X G M d K) {d' idx : Nat} {y : MethodName} {M' : Mi} {a0 a1 a2 a3 a4 : Value} {rest : List Value} {v : Int64} {σ1 : Sg} (hd : decode M.2.1 pc = .ok (.invokestatic idx, 3)) (hw : am_cs M.1 idx y M' 5) (hC : am_Ct G d' y M' [a0, a1, a2, a3, a4] σ (am_ql v σ1)) (hdd : d' + 1 ≤ d) (hn : True = True) (hsm : (rest.map fun v => v.category).sum ≤ 8) (kk : am_W G K Qe (pc + 3) ls (.long v :: rest) σ1) : am_W G K Qe pc ls (a4 :: a3 :: a2 :: a1 :: a0 :: rest) σ := am_calls (As := [a0, a1, a2, a3, a4]) X hd hw hC hdd rfl rfl hsm (fun r σ' hq => by obtain ⟨rfl, rfl⟩ := hq; exact kk)
theorem am_callv_v5 (X : am_X G M d K) {d' idx k ci : Nat} {y : MethodName} {M' : Mi} {a0 a1 a2 a3 a4 : Value} {rest : List Value} {σ1 : Sg} {fs : List (Option Nat)} {q : vw_C} (hd : decode M.2.1 pc = .ok (.invokevirtual idx, 3)) (hw : am_cv M.1 idx y M' 5) (hC : am_Ct G d' y M' [.ref k, a0, a1, a2, a3, a4] σ (am_qv σ1)) (hdd : d' + 1 ≤ d) (hs : am_shp[k]? = some (.inl (ci, fs))) (hc : vwCl[ci]? = some q) (hqy : q.1 = y.cls) (hn : True = True) (hsm : (rest.map fun v => v.category).sum ≤ 8) (kk : am_W G K Qe (pc + 3) ls (rest) σ1) : am_W G K Qe pc ls (a4 :: a3 :: a2 :: a1 :: a0 :: .ref k :: rest) σ := am_callv (As := [a0, a1, a2, a3, a4]) X hd hw hC hdd hs hc hqy rfl rfl hsm (fun r σ' hq => by obtain ⟨rfl, rfl⟩ := hq; exact kk)
theorem am_calls_v5 (X : am_X G M d K) {d' idx : Nat} {y : MethodName} {M' : Mi} {a0 a1 a2 a3 a4 : Value} {rest : List Value} {σ1 : Sg} (hd : decode M.2.1 pc = .ok (.invokestatic idx, 3)) (hw : am_cs M.1 idx y M' 5) (hC : am_Ct G d' y M' [a0, a1, a2, a3, a4] σ (am_qv σ1)) (hdd : d' + 1 ≤ d) (hn : True = True) (hsm : (rest.map fun v => v.category).sum ≤ 8) (kk : am_W G K Qe (pc + 3) ls (rest) σ1) : am_W G K Qe pc ls (a4 :: a3 :: a2 :: a1 :: a0 :: rest) σ := am_calls (As := [a0, a1, a2, a3, a4]) X hd hw hC hdd rfl rfl hsm (fun r σ' hq => by obtain ⟨rfl, rfl⟩ := hq; exact kk)
end AMS
