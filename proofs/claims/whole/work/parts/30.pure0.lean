/-! plain rows: guards, names, cells; the abstract state; what it is for class and model -/
theorem l_0 : (0 : Int32) = nI 0 := (Eq.refl (nI 0)).trans rfl
theorem l_1 : (1 : Int32) = nI 1 := (Eq.refl (nI 1)).trans rfl
theorem l_2 : (2 : Int32) = nI 2 := (Eq.refl (nI 2)).trans rfl
theorem l_3 : (3 : Int32) = nI 3 := (Eq.refl (nI 3)).trans rfl
theorem l_4 : (4 : Int32) = nI 4 := (Eq.refl (nI 4)).trans rfl
theorem l_5 : (5 : Int32) = nI 5 := (Eq.refl (nI 5)).trans rfl
theorem l_6 : (6 : Int32) = nI 6 := (Eq.refl (nI 6)).trans rfl
theorem l_7 : (7 : Int32) = nI 7 := (Eq.refl (nI 7)).trans rfl
theorem l_8 : (8 : Int32) = nI 8 := (Eq.refl (nI 8)).trans rfl
theorem l_9 : (9 : Int32) = nI 9 := (Eq.refl (nI 9)).trans rfl
theorem l_10 : (10 : Int32) = nI 10 := (Eq.refl (nI 10)).trans rfl
theorem l_11 : (11 : Int32) = nI 11 := (Eq.refl (nI 11)).trans rfl
theorem l_12 : (12 : Int32) = nI 12 := (Eq.refl (nI 12)).trans rfl
theorem l_13 : (13 : Int32) = nI 13 := (Eq.refl (nI 13)).trans rfl
theorem l_14 : (14 : Int32) = nI 14 := (Eq.refl (nI 14)).trans rfl
theorem l_15 : (15 : Int32) = nI 15 := (Eq.refl (nI 15)).trans rfl
theorem l_16 : (16 : Int32) = nI 16 := (Eq.refl (nI 16)).trans rfl
theorem l_17 : (17 : Int32) = nI 17 := (Eq.refl (nI 17)).trans rfl
theorem l_18 : (18 : Int32) = nI 18 := (Eq.refl (nI 18)).trans rfl
theorem l_19 : (19 : Int32) = nI 19 := (Eq.refl (nI 19)).trans rfl
theorem l_20 : (20 : Int32) = nI 20 := (Eq.refl (nI 20)).trans rfl
theorem l_21 : (21 : Int32) = nI 21 := (Eq.refl (nI 21)).trans rfl
theorem l_22 : (22 : Int32) = nI 22 := (Eq.refl (nI 22)).trans rfl
theorem l_23 : (23 : Int32) = nI 23 := (Eq.refl (nI 23)).trans rfl
theorem l_24 : (24 : Int32) = nI 24 := (Eq.refl (nI 24)).trans rfl
theorem l_25 : (25 : Int32) = nI 25 := (Eq.refl (nI 25)).trans rfl
theorem l_31 : (31 : Int32) = nI 31 := (Eq.refl (nI 31)).trans rfl
theorem l_32 : (32 : Int32) = nI 32 := (Eq.refl (nI 32)).trans rfl
theorem l_33 : (33 : Int32) = nI 33 := (Eq.refl (nI 33)).trans rfl
theorem l_38 : (38 : Int32) = nI 38 := (Eq.refl (nI 38)).trans rfl
theorem l_40 : (40 : Int32) = nI 40 := (Eq.refl (nI 40)).trans rfl
theorem l_41 : (41 : Int32) = nI 41 := (Eq.refl (nI 41)).trans rfl
theorem l_48 : (48 : Int32) = nI 48 := (Eq.refl (nI 48)).trans rfl
theorem l_51 : (51 : Int32) = nI 51 := (Eq.refl (nI 51)).trans rfl
theorem l_57 : (57 : Int32) = nI 57 := (Eq.refl (nI 57)).trans rfl
theorem l_59 : (59 : Int32) = nI 59 := (Eq.refl (nI 59)).trans rfl
theorem l_60 : (60 : Int32) = nI 60 := (Eq.refl (nI 60)).trans rfl
theorem l_61 : (61 : Int32) = nI 61 := (Eq.refl (nI 61)).trans rfl
theorem l_63 : (63 : Int32) = nI 63 := (Eq.refl (nI 63)).trans rfl
theorem l_87 : (87 : Int32) = nI 87 := (Eq.refl (nI 87)).trans rfl
theorem l_94 : (94 : Int32) = nI 94 := (Eq.refl (nI 94)).trans rfl
theorem l_97 : (97 : Int32) = nI 97 := (Eq.refl (nI 97)).trans rfl
theorem l_99 : (99 : Int32) = nI 99 := (Eq.refl (nI 99)).trans rfl
theorem l_100 : (100 : Int32) = nI 100 := (Eq.refl (nI 100)).trans rfl
theorem l_101 : (101 : Int32) = nI 101 := (Eq.refl (nI 101)).trans rfl
theorem l_102 : (102 : Int32) = nI 102 := (Eq.refl (nI 102)).trans rfl
theorem l_115 : (115 : Int32) = nI 115 := (Eq.refl (nI 115)).trans rfl
theorem l_124 : (124 : Int32) = nI 124 := (Eq.refl (nI 124)).trans rfl
theorem l_127 : (127 : Int32) = nI 127 := (Eq.refl (nI 127)).trans rfl
theorem l_128 : (128 : Int32) = nI 128 := (Eq.refl (nI 128)).trans rfl
theorem l_140 : (140 : Int32) = nI 140 := (Eq.refl (nI 140)).trans rfl
theorem l_201 : (201 : Int32) = nI 201 := (Eq.refl (nI 201)).trans rfl
theorem l_206 : (206 : Int32) = nI 206 := (Eq.refl (nI 206)).trans rfl
theorem l_300 : (300 : Int32) = nI 300 := (Eq.refl (nI 300)).trans rfl
theorem l_906 : (906 : Int32) = nI 906 := (Eq.refl (nI 906)).trans rfl
theorem l_999 : (999 : Int32) = nI 999 := (Eq.refl (nI 999)).trans rfl
theorem l_9999 : (9999 : Int32) = nI 9999 := (Eq.refl (nI 9999)).trans rfl
theorem l_1000000 : (1000000 : Int32) = nI 1000000 := (Eq.refl (nI 1000000)).trans rfl
theorem l_252645135 : (252645135 : Int32) = nI 252645135 := (Eq.refl (nI 252645135)).trans rfl
theorem l_858993459 : (858993459 : Int32) = nI 858993459 := (Eq.refl (nI 858993459)).trans rfl
theorem l_1000000000 : (1000000000 : Int32) = nI 1000000000 := (Eq.refl (nI 1000000000)).trans rfl
theorem l_1431655765 : (1431655765 : Int32) = nI 1431655765 := (Eq.refl (nI 1431655765)).trans rfl
theorem nm_eq {α β : Type} (v : α) (k : α → β) : nm v k = k v := rfl
theorem gd_t {α : Type} (k : Option α) : gd true k = k := rfl
theorem bd_s {α β : Type} (x : α) (k : α → Option β) : bd (some x) k = k x := rfl
theorem bd2_s {α β γ : Type} (x : α) (y : β) (k : α → β → Option γ) : bd2 (some (x, y)) k = k x y := rfl
theorem bd2_k {α β γ : Type} {o : Option (α × β)} {x : α} {y : β} {k : α → β → Option γ} {r : Option γ} (h : o = some (x, y)) (g : k x y = r) : bd2 o k = r := by
  subst h
  exact g
theorem nm_k {α β : Type} {v : α} {k : α → β} {r : β} (g : k v = r) : nm v k = r := g
theorem gd_k {α : Type} {b : Bool} {k r : Option α} (h : b = true) (g : k = r) : gd b k = r := by
  subst h
  exact g
theorem if_T {α : Type} {c : Prop} [Decidable c] {a b r : α} (h : c) (g : a = r) : (if c then a else b) = r := by
  rw [if_pos h]
  exact g
theorem if_F {α : Type} {c : Prop} [Decidable c] {a b r : α} (h : ¬ c) (g : b = r) : (if c then a else b) = r := by
  rw [if_neg h]
  exact g
theorem n10 : ¬ nI 1 = 0 := by decide
theorem n00 : nI 0 = 0 := by decide
theorem rg_srg (σ : Sg) (k j a b : Nat) (v : Int32) : rg (srg σ k j v) a b = if a = k ∧ b = j then v else rg σ a b := rfl
theorem rg_sar (σ : Sg) (k j : Nat) (v : Int32) : rg (sar σ k j v) = rg σ := rfl
theorem rg_sal (σ : Sg) (k j : Nat) (v : Int64) : rg (sal σ k j v) = rg σ := rfl
theorem rg_srow (σ : Sg) (k : Nat) (g : Nat → Int32) : rg (srow σ k g) = rg σ := rfl
theorem rg_srowl (σ : Sg) (k : Nat) (g : Nat → Int64) : rg (srowl σ k g) = rg σ := rfl
theorem ar_srg (σ : Sg) (k j : Nat) (v : Int32) : ar (srg σ k j v) = ar σ := rfl
theorem ar_sar (σ : Sg) (k j a b : Nat) (v : Int32) : ar (sar σ k j v) a b = if a = k ∧ b = j then v else ar σ a b := rfl
theorem ar_sal (σ : Sg) (k j : Nat) (v : Int64) : ar (sal σ k j v) = ar σ := rfl
theorem ar_srow (σ : Sg) (k a b : Nat) (g : Nat → Int32) : ar (srow σ k g) a b = if a = k then g b else ar σ a b := by
  show uprow σ.2.1 k g a b = _
  unfold uprow
  split <;> rfl
theorem ar_srowl (σ : Sg) (k : Nat) (g : Nat → Int64) : ar (srowl σ k g) = ar σ := rfl
theorem al_srg (σ : Sg) (k j : Nat) (v : Int32) : al (srg σ k j v) = al σ := rfl
theorem al_sar (σ : Sg) (k j : Nat) (v : Int32) : al (sar σ k j v) = al σ := rfl
theorem al_sal (σ : Sg) (k j a b : Nat) (v : Int64) : al (sal σ k j v) a b = if a = k ∧ b = j then v else al σ a b := rfl
theorem al_srow (σ : Sg) (k : Nat) (g : Nat → Int32) : al (srow σ k g) = al σ := rfl
theorem al_srowl (σ : Sg) (k a b : Nat) (g : Nat → Int64) : al (srowl σ k g) a b = if a = k then g b else al σ a b := by
  show uprow σ.2.2 k g a b = _
  unfold uprow
  split <;> rfl
theorem inb_nI {i n : Nat} (h : i < n) (hn : n < 2 ^ 31) : inb (nI i) n = true := decide_eq_true (nI_in h hn)
theorem inb_t {x : Int32} {i n : Nat} (hx : x = nI i) (h : i < n) (hn : n < 2 ^ 31) : inb x n = true := hx ▸ inb_nI h hn
theorem nbz_0 : nbz (nI 0) = true := by decide
theorem nbz_1 : nbz (nI 1) = true := by decide
theorem ar_sar_ne {σ : Sg} {k j a : Nat} {v : Int32} (h : a ≠ k) : ar (sar σ k j v) a = ar σ a := by
  funext y
  rw [ar_sar, if_neg (fun q => h q.1)]
theorem ar_srow_ne {σ : Sg} {k a : Nat} {g : Nat → Int32} (h : a ≠ k) : ar (srow σ k g) a = ar σ a := by
  funext y
  rw [ar_srow, if_neg h]
theorem ar_srow_self {σ : Sg} {k : Nat} {g : Nat → Int32} : ar (srow σ k g) k = g := by
  funext y
  rw [ar_srow, if_pos rfl]
theorem ar_s1 {σ : Sg} {k j a b : Nat} {v : Int32} (h : ¬ (a = k ∧ b = j)) : ar (sar σ k j v) a b = ar σ a b := by rw [ar_sar, if_neg h]
theorem ar_s2 {σ : Sg} {k j a b : Nat} {v : Int32} (h : a = k ∧ b = j) : ar (sar σ k j v) a b = v := by rw [ar_sar, if_pos h]
theorem rg_s1 {σ : Sg} {k j a b : Nat} {v : Int32} (h : ¬ (a = k ∧ b = j)) : rg (srg σ k j v) a b = rg σ a b := by rw [rg_srg, if_neg h]
theorem rg_s2 {σ : Sg} {k j a b : Nat} {v : Int32} (h : a = k ∧ b = j) : rg (srg σ k j v) a b = v := by rw [rg_srg, if_pos h]
theorem neg_1 : (nI 0 ≤ -nI 1) = False := eq_false (by decide)
theorem neg_2 : (nI 0 ≤ -nI 2) = False := eq_false (by decide)
theorem ilt_T {a b : Nat} (h : a < b) (hb : b < 2 ^ 31) : (nI a < nI b) = True := eq_true ((nI_ltI (by omega) hb).mpr h)
theorem ilt_F {a b : Nat} (h : b ≤ a) (ha : a < 2 ^ 31) : (nI a < nI b) = False := eq_false (fun q => by have := (nI_ltI ha (by omega)).mp q; omega)
theorem ile_T {a b : Nat} (h : a ≤ b) (hb : b < 2 ^ 31) : (nI a ≤ nI b) = True := eq_true ((nI_leI (by omega) hb).mpr h)
theorem ile_F {a b : Nat} (h : b < a) (ha : a < 2 ^ 31) : (nI a ≤ nI b) = False := eq_false (fun q => by have := (nI_leI ha (by omega)).mp q; omega)
theorem ieq_T {a b : Nat} (h : a = b) : (nI a = nI b) = True := eq_true (by rw [h])
theorem ieq_F {a b : Nat} (h : ¬ a = b) (ha : a < 2 ^ 31) (hb : b < 2 ^ 31) : (nI a = nI b) = False := eq_false (fun q => h ((nI_eq ha hb).mp q))
/-- what counts of the cells: the two states, the act's trace, and the model's -/
def cA (k : Nat) : Bool := decide ((10 ≤ k ∧ k ≤ 29) ∨ (31 ≤ k ∧ k ≤ 34) ∨ k = 38 ∨ k = 59 ∨ k = 61 ∨ k = 62 ∨ k = 82)
def cR (k j : Nat) : Bool := decide ((1 ≤ k ∧ k ≤ 4) ∨ (k = 0 ∧ j = 2) ∨ (k = 9 ∧ j = 0) ∨ (k = 60 ∧ (j = 3 ∨ j = 34)))
def Sm (σ σ' : Sg) : Prop := (∀ k j, cR k j = true → rg σ' k j = rg σ k j) ∧ ∀ k, cA k = true → ar σ' k = ar σ k
theorem Sm.rf (σ : Sg) : Sm σ σ := ⟨fun _ _ _ => rfl, fun _ _ => rfl⟩
theorem Sm.tr {a b c : Sg} (h : Sm a b) (g : Sm b c) : Sm a c := ⟨fun k j e => (g.1 k j e).trans (h.1 k j e), fun k e => (g.2 k e).trans (h.2 k e)⟩
theorem Sm.srg {a b : Sg} (h : Sm a b) {k j : Nat} (v : Int32) (hc : cR k j = false) : Sm a (srg b k j v) := by
  refine ⟨fun x y e => ?_, h.2⟩
  rw [rg_srg, if_neg (by rintro ⟨rfl, rfl⟩; rw [hc] at e; cases e)]
  exact h.1 x y e
theorem Sm.sar {a b : Sg} (h : Sm a b) {k : Nat} (j : Nat) (v : Int32) (hc : cA k = false) : Sm a (sar b k j v) := by
  refine ⟨h.1, fun x e => ?_⟩
  rw [← h.2 x e]
  funext y
  rw [ar_sar, if_neg (by rintro ⟨rfl, rfl⟩; rw [hc] at e; cases e)]
theorem Sm.srow {a b : Sg} (h : Sm a b) {k : Nat} (g : Nat → Int32) (hc : cA k = false) : Sm a (srow b k g) := by
  refine ⟨h.1, fun x e => ?_⟩
  rw [← h.2 x e]
  funext y
  rw [ar_srow, if_neg (by rintro rfl; rw [hc] at e; cases e)]
theorem Sm.sal {a b : Sg} (h : Sm a b) (k j : Nat) (v : Int64) : Sm a (sal b k j v) := ⟨h.1, h.2⟩
theorem Sm.srowl {a b : Sg} (h : Sm a b) (k : Nat) (g : Nat → Int64) : Sm a (srowl b k g) := ⟨h.1, h.2⟩
/-- it answers v, and nothing that counts has changed -/
def Ev (o : Option (Int32 × Sg)) (v : Int32) (σ : Sg) : Prop := ∃ σ1, o = some (v, σ1) ∧ Sm σ σ1
def Evl (o : Option (Int64 × Sg)) (v : Int64) (σ : Sg) : Prop := ∃ σ1, o = some (v, σ1) ∧ Sm σ σ1
/-- a town's clauses: word, n, codes (a test: fact, relation, number as one number below 1500; 2000 not, 2001 both, 2002 either) -/
abbrev Tw : Type := List (Nat × Nat × List Nat)
/-- numbers: streets, day, signs, towns, tallies; by street: kind, v, in, out, leads (bits); tape; tallies' in, out; the town that holds -/
abbrev Ab : Type := (Nat × Nat × Nat × Nat × Nat) × (Nat → Nat) × (Nat → Nat) × (Nat → Nat) × (Nat → Nat) × (Nat → Nat) × (Nat → Nat) × (Nat → Nat) × (Nat → Nat) × Tw
def aS (A : Ab) : Nat := A.1.1
def aD (A : Ab) : Nat := A.1.2.1
def aT (A : Ab) : Nat := A.1.2.2.1
def aW (A : Ab) : Nat := A.1.2.2.2.1
def aZ (A : Ab) : Nat := A.1.2.2.2.2
def kd (A : Ab) : Nat → Nat := A.2.1
def vv (A : Ab) : Nat → Nat := A.2.2.1
def ii (A : Ab) : Nat → Nat := A.2.2.2.1
def oo (A : Ab) : Nat → Nat := A.2.2.2.2.1
def ld (A : Ab) : Nat → Nat := A.2.2.2.2.2.1
def tp (A : Ab) : Nat → Nat := A.2.2.2.2.2.2.1
def ti (A : Ab) : Nat → Nat := A.2.2.2.2.2.2.2.1
def tu (A : Ab) : Nat → Nat := A.2.2.2.2.2.2.2.2.1
def tw (A : Ab) : Tw := A.2.2.2.2.2.2.2.2.2
def cc1 (c : Nat) : Int32 := if c = 2000 then -1 else if c = 2001 then -2 else if c = 2002 then -3 else nI c
def cm1 (c : Nat) : Int32 := if c = 2000 then -1 else if c = 2001 then -2 else if c = 2002 then -3 else nI (c / 300 + 8 * (c / 100 % 3) + 32 * (c % 100))
/-- the class's codes, one clause behind the other; the model's, with an end to each clause -/
def twC (t : Tw) : List Nat := t.flatMap fun q => q.2.2
def wdM (w : Nat) : Int32 := if w = 0 then -10 else if w = 1 then -200 else -400
def twM (t : Tw) : List Int32 := t.flatMap fun q => q.2.2.map cm1 ++ [wdM q.1 - nI q.2.1]
def twFrom (t : Tw) (i : Nat) : Nat := (twC (t.take i)).length
/-- a row of codes leaves d operands where there were 0, and never more than 16 wait -/
def cdep : List Nat → Nat → Option Nat
  | [], d => some d
  | c :: l, d => if c < 1500 then (if d < 16 then cdep l (d + 1) else none) else if c = 2000 then (if 1 ≤ d then cdep l d else none) else if c = 2001 ∨ c = 2002 then (if 2 ≤ d then cdep l (d - 1) else none) else none
def twOK (t : Tw) : Prop := t.length ≤ 10 ∧ (twC t).length ≤ 100 ∧ ∀ q ∈ t, q.1 < 3 ∧ q.2.1 < 100 ∧ cdep q.2.2 0 = some 1
def AOK (A : Ab) : Prop := (aS A ≤ 7 ∧ aD A ≤ 99 ∧ aT A ≤ 100 ∧ aW A ≤ 5 ∧ aZ A ≤ 7) ∧ (∀ k, k < aS A → kd A k ≤ 6 ∧ vv A k ≤ 9 ∧ ii A k ≤ 9999 ∧ oo A k ≤ 9999 ∧ ld A k < 2 ^ aS A ∧ (ld A k).testBit k = false) ∧ (∀ i, i < aT A → tp A i < 128) ∧ (∀ i, i < aZ A → ti A i ≤ 999 ∧ tu A i ≤ 999) ∧ twOK (tw A) ∧ (aW A = 0 → tw A = [])
/-- the town t stands in the object o, with its rows from b on -/
def RT (o b : Nat) (t : Tw) (σ : Sg) : Prop := rg σ o 0 = nI t.length ∧ rg σ o 4 = nI (twC t).length ∧ (∀ i, i < t.length → ar σ b i = nI (t.getD i (0, 0, [])).1 ∧ ar σ (b + 1) i = nI (t.getD i (0, 0, [])).2.1) ∧ (∀ i, i ≤ t.length → ar σ (b + 2) i = nI (twFrom t i)) ∧ ∀ i, i < (twC t).length → ar σ (b + 3) i = cc1 ((twC t).getD i 0)
/-- the state A stands in the class's object o, with its rows from b on, its town in t, u -/
def RC (o b t u : Nat) (A : Ab) (σ : Sg) : Prop := (rg σ o 0 = nI (aS A) ∧ rg σ o 6 = nI (aD A) ∧ rg σ o 7 = nI (aT A) ∧ rg σ o 9 = nI (aW A) ∧ rg σ o 11 = nI (aZ A)) ∧ (∀ k, k < aS A → ar σ b k = nI (kd A k) ∧ ar σ (b + 1) k = nI (vv A k) ∧ ar σ (b + 2) k = nI (ii A k) ∧ ar σ (b + 3) k = nI (oo A k) ∧ ar σ (b + 4) k = nI (ld A k)) ∧ (∀ i, i < aT A → ar σ (b + 5) i = nI (tp A i)) ∧ (∀ i, i < aZ A → ar σ (b + 6) i = nI (ti A i) ∧ ar σ (b + 7) i = nI (tu A i)) ∧ RT t u (tw A) σ
/-- the state A stands in the model's row m -/
def RM (m : Nat) (A : Ab) (σ : Sg) : Prop := (ar σ m 0 = nI (aS A) ∧ ar σ m 5 = nI (aD A) ∧ ar σ m 3 = nI (aT A) ∧ ar σ m 1 = nI (aW A) ∧ ar σ m 2 = nI (aZ A) ∧ ar σ m 4 = nI (aW A) - 1) ∧ (∀ k, k < aS A → ar σ m (10 + k) = nI (kd A k) ∧ ar σ m (17 + k) = nI (vv A k) ∧ ar σ m (24 + k) = nI (ii A k) ∧ ar σ m (31 + k) = nI (oo A k) ∧ ∀ j, j < aS A → ar σ m (38 + 7 * k + j) = if (ld A k).testBit j then 1 else 0) ∧ (∀ i, i < aT A → ar σ m (101 + i) = nI (tp A i)) ∧ (∀ i, i < aZ A → ar σ m (87 + i) = nI (ti A i) ∧ ar σ m (94 + i) = nI (tu A i)) ∧ (0 < aW A → ar σ m (201 + (aW A - 1)) = nI (twM (tw A)).length ∧ ∀ i, i < (twM (tw A)).length → ar σ m (206 + 140 * (aW A - 1) + i) = (twM (tw A)).getD i 0)
theorem RT.same {o b : Nat} {t : Tw} {σ σ' : Sg} (h : RT o b t σ) (h0 : rg σ' o 0 = rg σ o 0) (h4 : rg σ' o 4 = rg σ o 4) (ha : ∀ k, k < 4 → ar σ' (b + k) = ar σ (b + k)) : RT o b t σ' := by
  obtain ⟨a1, a2, a3, a4, a5⟩ := h
  have e0 := ha 0 (by omega)
  have e1 := ha 1 (by omega)
  have e2 := ha 2 (by omega)
  have e3 := ha 3 (by omega)
  rw [Nat.add_zero] at e0
  exact ⟨by rw [h0]; exact a1, by rw [h4]; exact a2, by rw [e0, e1]; exact a3, by rw [e2]; exact a4, by rw [e3]; exact a5⟩
theorem RC.same {o b t u : Nat} {A : Ab} {σ σ' : Sg} (h : RC o b t u A σ) (hr : ∀ j, rg σ' o j = rg σ o j) (ha : ∀ k, k < 8 → ar σ' (b + k) = ar σ (b + k)) (hr2 : ∀ j, rg σ' t j = rg σ t j) (ha2 : ∀ k, k < 4 → ar σ' (u + k) = ar σ (u + k)) : RC o b t u A σ' := by
  obtain ⟨⟨a1, a2, a3, a4, a5⟩, b1, b2, b3, b4⟩ := h
  have e0 := ha 0 (by omega)
  rw [Nat.add_zero] at e0
  have e1 := ha 1 (by omega)
  have e2 := ha 2 (by omega)
  have e3 := ha 3 (by omega)
  have e4 := ha 4 (by omega)
  have e5 := ha 5 (by omega)
  have e6 := ha 6 (by omega)
  have e7 := ha 7 (by omega)
  refine ⟨⟨by rw [hr]; exact a1, by rw [hr]; exact a2, by rw [hr]; exact a3, by rw [hr]; exact a4, by rw [hr]; exact a5⟩, by rw [e0, e1, e2, e3, e4]; exact b1, by rw [e5]; exact b2, by rw [e6, e7]; exact b3, b4.same (hr2 0) (hr2 4) ha2⟩
theorem RM.same {m : Nat} {A : Ab} {σ σ' : Sg} (h : RM m A σ) (ha : ar σ' m = ar σ m) : RM m A σ' := by
  unfold RM at h ⊢
  rw [ha]
  exact h
/-- class and model stand for the same: now, and, if an image was taken, then; and the trace of the latest act -/
def Inv (A : Ab) (σ : Sg) : Prop := AOK A ∧ RC 1 10 3 26 A σ ∧ RM 61 A σ ∧ (ar σ 38 0 = nI 0 ∧ ((rg σ 0 2 = 0 ∧ rg σ 60 3 = 0) ∨ (rg σ 0 2 = 1 ∧ rg σ 60 3 = 1 ∧ ∃ B, AOK B ∧ RC 2 18 4 31 B σ ∧ RM 62 B σ))) ∧ ∃ r : Nat, r < 2 ^ 20 ∧ rg σ 9 0 = nI r ∧ rg σ 60 34 = nI r ∧ ∀ i, i < r → i < 20 → ar σ 59 i = ar σ 82 i
theorem RC.sm {o b t u : Nat} {A : Ab} {σ σ' : Sg} (h : RC o b t u A σ) (g : Sm σ σ') (hc : (1 ≤ o ∧ o ≤ 4) ∧ (10 ≤ b ∧ b ≤ 18) ∧ (1 ≤ t ∧ t ≤ 4) ∧ (u = 26 ∨ u = 31)) : RC o b t u A σ' := by
  obtain ⟨h1, h2, h3, h4⟩ := hc
  refine h.same (fun j => g.1 _ _ (by unfold cR; exact decide_eq_true (Or.inl h1))) (fun k hk => g.2 _ (by unfold cA; exact decide_eq_true (by omega))) (fun j => g.1 _ _ (by unfold cR; exact decide_eq_true (Or.inl h3))) (fun k hk => g.2 _ (by unfold cA; exact decide_eq_true (by omega)))
theorem Inv.sm {A : Ab} {σ σ' : Sg} (h : Inv A σ) (g : Sm σ σ') : Inv A σ' := by
  obtain ⟨h1, h2, h3, h4, r, h5, h6, h7, h8⟩ := h
  refine ⟨h1, h2.sm g (by omega), h3.same (g.2 _ (by decide)), ?_, r, h5, (g.1 _ _ (by decide)).trans h6, (g.1 _ _ (by decide)).trans h7, fun i a b => ?_⟩
  · obtain ⟨h9, h4⟩ := h4
    refine ⟨by rw [g.2 38 (by decide)]; exact h9, ?_⟩
    rw [g.1 0 2 (by decide), g.1 60 3 (by decide)]
    rcases h4 with h4 | ⟨a, b, B, c, d, e⟩
    · exact Or.inl h4
    · exact Or.inr ⟨a, b, B, c, d.sm g (by omega), e.same (g.2 _ (by decide))⟩
  · rw [g.2 59 (by decide), g.2 82 (by decide)]
    exact h8 i a b
/-- at the start -/
def A0 : Ab := ((0, 0, 0, 0, 0), fun _ => 0, fun _ => 0, fun _ => 0, fun _ => 0, fun _ => 0, fun _ => 0, fun _ => 0, fun _ => 0, [])
theorem Inv0 : Inv A0 am_s0 := by
  refine ⟨⟨by decide, fun k hk => absurd hk (Nat.not_lt_zero k), fun k hk => absurd hk (Nat.not_lt_zero k), fun k hk => absurd hk (Nat.not_lt_zero k), ⟨by decide, by decide, fun q hq => absurd hq List.not_mem_nil⟩, fun _ => rfl⟩, ⟨⟨rfl, rfl, rfl, rfl, rfl⟩, fun k hk => absurd hk (Nat.not_lt_zero k), fun k hk => absurd hk (Nat.not_lt_zero k), fun k hk => absurd hk (Nat.not_lt_zero k), ⟨rfl, rfl, fun k hk => absurd hk (Nat.not_lt_zero k), fun i hi => ?_, fun k hk => absurd hk (Nat.not_lt_zero k)⟩⟩, ⟨⟨rfl, rfl, rfl, rfl, rfl, rfl⟩, fun k hk => absurd hk (Nat.not_lt_zero k), fun k hk => absurd hk (Nat.not_lt_zero k), fun k hk => absurd hk (Nat.not_lt_zero k), fun h => absurd h (by decide)⟩, ⟨rfl, Or.inl ⟨rfl, rfl⟩⟩, 0, by decide, rfl, rfl, fun k hk => absurd hk (Nat.not_lt_zero k)⟩
  have : i = 0 := Nat.le_zero.mp hi
  subst this
  rfl
