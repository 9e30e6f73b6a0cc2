/-! plain mathematics: the search for what is reached most cheaply (a round over the arcs, again and again) -/
abbrev Bs : Type := (Nat → Int) × (Nat → Option Nat)
def bfI : Int := 1000000000
/-- one arc: if it goes on and betters its end, its end is reached by it -/
def bfg (tl hd : Nat → Nat) (wt : Nat → Int) (rs : Nat → Bool) (a : Nat) (s : Bs) : Bool := rs a && decide (s.1 (tl a) < bfI) && decide (s.1 (tl a) + wt a < s.1 (hd a))
def bf1 (tl hd : Nat → Nat) (wt : Nat → Int) (rs : Nat → Bool) (a : Nat) (s : Bs) : Bs := if bfg tl hd wt rs a s = true then (fun v => if v = hd a then s.1 (tl a) + wt a else s.1 v, fun v => if v = hd a then some a else s.2 v) else s
def bfr (tl hd : Nat → Nat) (wt : Nat → Int) (rs : Nat → Bool) : List Nat → Bs → Bs
  | [], s => s
  | a :: l, s => bfr tl hd wt rs l (bf1 tl hd wt rs a s)
/-- whether a round betters anything -/
def bfc (tl hd : Nat → Nat) (wt : Nat → Int) (rs : Nat → Bool) : List Nat → Bs → Bool
  | [], _ => false
  | a :: l, s => bfg tl hd wt rs a s || bfc tl hd wt rs l (bf1 tl hd wt rs a s)
def bfn (tl hd : Nat → Nat) (wt : Nat → Int) (rs : Nat → Bool) (L : List Nat) : Nat → Bs → Bs
  | 0, s => s
  | n + 1, s => bfr tl hd wt rs L (bfn tl hd wt rs L n s)
section BF
variable {tl hd : Nat → Nat} {wt : Nat → Int} {rs : Nat → Bool} {src : Nat → Bool} {p : Nat → Int}
theorem bfg_iff {a : Nat} {s : Bs} : bfg tl hd wt rs a s = true ↔ rs a = true ∧ s.1 (tl a) < bfI ∧ s.1 (tl a) + wt a < s.1 (hd a) := by
  unfold bfg
  simp only [Bool.and_eq_true, decide_eq_true_eq]
  exact and_assoc
theorem bf1_le {a : Nat} {s : Bs} (v : Nat) : (bf1 tl hd wt rs a s).1 v ≤ s.1 v := by
  unfold bf1
  split
  next h =>
    have := bfg_iff.mp h
    try dsimp only
    split
    next e => rw [e]; omega
    next => exact Int.le_refl _
  next => exact Int.le_refl _
theorem bfr_le : ∀ (l : List Nat) (s : Bs) (v : Nat), (bfr tl hd wt rs l s).1 v ≤ s.1 v
  | [], s, v => Int.le_refl _
  | a :: l, s, v => Int.le_trans (bfr_le l _ v) (bf1_le v)
theorem bfc_false : ∀ (l : List Nat) (s : Bs), bfc tl hd wt rs l s = false → bfr tl hd wt rs l s = s ∧ ∀ a ∈ l, bfg tl hd wt rs a s = false
  | [], s, _ => ⟨rfl, fun a h => absurd h List.not_mem_nil⟩
  | a :: l, s, h => by
    unfold bfc at h
    rw [Bool.or_eq_false_iff] at h
    have e : bf1 tl hd wt rs a s = s := by unfold bf1; rw [if_neg (by rw [h.1]; decide)]
    rw [e] at h
    obtain ⟨h1, h2⟩ := bfc_false l s h.2
    refine ⟨by unfold bfr; rw [e]; exact h1, fun b hb => ?_⟩
    rcases List.mem_cons.mp hb with rfl | hb
    · exact h.1
    · exact h2 b hb
/-- behind a round an arc's end is reached no more dearly than by that arc from where the round began -/
theorem bfr_arc : ∀ (l : List Nat) (s : Bs) (a : Nat), a ∈ l → rs a = true → s.1 (tl a) < bfI → (bfr tl hd wt rs l s).1 (hd a) ≤ s.1 (tl a) + wt a
  | b :: l, s, a, hm, hr, hi => by
    unfold bfr
    rcases List.mem_cons.mp hm with rfl | hm
    · refine Int.le_trans (bfr_le l _ _) ?_
      unfold bf1
      split
      next h => dsimp only; rw [if_pos rfl]; exact Int.le_refl _
      next h =>
        have : ¬ s.1 (tl a) + wt a < s.1 (hd a) := fun q => h (bfg_iff.mpr ⟨hr, hi, q⟩)
        omega
    · have h1 := bf1_le (tl := tl) (hd := hd) (wt := wt) (rs := rs) (a := b) (s := s) (tl a)
      have h2 := bfr_arc l (bf1 tl hd wt rs b s) a hm hr (by omega)
      omega
theorem bfn_le (L : List Nat) (s : Bs) (v : Nat) : ∀ n k : Nat, (bfn tl hd wt rs L (n + k) s).1 v ≤ (bfn tl hd wt rs L n s).1 v
  | n, 0 => Int.le_refl _
  | n, k + 1 => Int.le_trans (bfr_le L _ v) (bfn_le L s v n k)
/-- lexicographic: nearer, or as near and earlier -/
def bfx (D : Nat → Int) (t : Nat → Nat) (u v : Nat) : Prop := D u < D v ∨ (D u = D v ∧ t u < t v)
/-- what holds at every time of a search -/
def bfJ (tl hd : Nat → Nat) (wt : Nat → Int) (rs src : Nat → Bool) (p : Nat → Int) (L : List Nat) (s : Bs) : Prop :=
  (∀ v, v < 8 → s.1 v ≤ bfI) ∧ (∀ v, v < 8 → src v = true → s.1 v ≤ 0) ∧ (∀ v, v < 8 → s.2 v = none → s.1 v = bfI ∨ (s.1 v = 0 ∧ src v = true)) ∧
  (∀ v a, v < 8 → s.2 v = some a → a ∈ L ∧ hd a = v ∧ rs a = true ∧ s.1 (tl a) + wt a ≤ s.1 v ∧ s.1 (tl a) < bfI ∧ s.1 v < bfI) ∧
  ∃ (t : Nat → Nat) (T : Nat), (∀ v, t v ≤ T) ∧ ∀ v a, v < 8 → s.2 v = some a → bfx (fun x => s.1 x - p x) t (tl a) v
theorem bf1_J {L : List Nat} (hL : ∀ a ∈ L, tl a < 8 ∧ hd a < 8 ∧ (rs a = true → 0 ≤ wt a + p (tl a) - p (hd a))) {s : Bs} (h : bfJ tl hd wt rs src p L s) {a : Nat} (ha : a ∈ L) : bfJ tl hd wt rs src p L (bf1 tl hd wt rs a s) := by
  unfold bf1
  split
  next hg =>
    obtain ⟨g1, g2, g3⟩ := bfg_iff.mp hg
    obtain ⟨h1, h2, hp⟩ := hL a ha
    have hp := hp g1
    obtain ⟨j0, j4, j1, j2, t, T, jt, j3⟩ := h
    have hne : tl a ≠ hd a := by
      intro e
      rw [e] at g3 hp
      omega
    have hb := j0 (hd a) h2
    refine ⟨fun v hv => ?_, fun v hv hs => ?_, fun v hv hn => ?_, fun v b hv hb2 => ?_, fun v => if v = hd a then T + 1 else t v, T + 1, fun v => ?_, fun v b hv hb2 => ?_⟩
    · try dsimp only
      split
      · omega
      · exact j0 v hv
    · try dsimp only
      split
      next e => rw [e] at hs; have := j4 (hd a) h2 hs; omega
      next => exact j4 v hv hs
    · dsimp only at hn ⊢
      by_cases e : v = hd a
      · rw [if_pos e] at hn; cases hn
      · rw [if_neg e] at hn ⊢
        exact j1 v hv hn
    · dsimp only at hb2 ⊢
      by_cases e : v = hd a
      · rw [if_pos e] at hb2 ⊢
        cases hb2
        subst e
        rw [if_neg hne]
        exact ⟨ha, rfl, g1, Int.le_refl _, g2, by omega⟩
      · rw [if_neg e] at hb2 ⊢
        obtain ⟨k1, k2, k3, k4, k5, k6⟩ := j2 v b hv hb2
        refine ⟨k1, k2, k3, ?_, ?_, k6⟩
        · split
          next e2 => rw [e2] at k4; omega
          next => exact k4
        · split
          next e2 => omega
          next => exact k5
    · try dsimp only
      split
      · omega
      · have := jt v; omega
    · dsimp only at hb2 ⊢
      unfold bfx
      try dsimp only
      by_cases e : v = hd a
      · rw [if_pos e] at hb2
        cases hb2
        subst e
        rw [if_pos rfl, if_neg hne, if_pos rfl, if_neg hne]
        have := jt (tl a)
        omega
      · rw [if_neg e] at hb2
        have k := j3 v b hv hb2
        unfold bfx at k
        dsimp only at k
        rw [if_neg e, if_neg e]
        by_cases e2 : tl b = hd a
        · rw [if_pos e2, if_pos e2]
          rw [e2] at k ⊢
          left
          omega
        · rw [if_neg e2, if_neg e2]
          exact k
  next => exact h
theorem bfr_J {L : List Nat} (hL : ∀ a ∈ L, tl a < 8 ∧ hd a < 8 ∧ (rs a = true → 0 ≤ wt a + p (tl a) - p (hd a))) : ∀ (l : List Nat) (s : Bs), (∀ a ∈ l, a ∈ L) → bfJ tl hd wt rs src p L s → bfJ tl hd wt rs src p L (bfr tl hd wt rs l s)
  | [], s, _, h => h
  | a :: l, s, hl, h => bfr_J hL l _ (fun b hb => hl b (List.mem_cons_of_mem _ hb)) (bf1_J hL h (hl a List.mem_cons_self))
theorem bfn_J {L : List Nat} (hL : ∀ a ∈ L, tl a < 8 ∧ hd a < 8 ∧ (rs a = true → 0 ≤ wt a + p (tl a) - p (hd a))) {s : Bs} (h : bfJ tl hd wt rs src p L s) : ∀ n : Nat, bfJ tl hd wt rs src p L (bfn tl hd wt rs L n s)
  | 0 => h
  | n + 1 => bfr_J hL L _ (fun _ h => h) (bfn_J hL h n)
/-- how many are nearer or earlier: 0 .. 7 -/
noncomputable def bfk (D : Nat → Int) (t : Nat → Nat) (v : Nat) : Int := by
  classical
  exact s8 (fun x => if bfx D t x v then 1 else 0)
theorem bfk_lt {D : Nat → Int} {t : Nat → Nat} {u v : Nat} (hu : u < 8) (h : bfx D t u v) : bfk D t u + 1 ≤ bfk D t v := by
  classical
  have e : bfk D t v - bfk D t u = s8 (fun x => (if bfx D t x v then (1 : Int) else 0) - (if bfx D t x u then 1 else 0)) := by
    rw [s8_sub]
    unfold bfk
    congr <;> (funext x; congr)
  have hp : 0 < s8 (fun x => (if bfx D t x v then (1 : Int) else 0) - (if bfx D t x u then 1 else 0)) := by
    refine s8_pos (k := u) (fun x _ => ?_) hu ?_
    · try dsimp only
      by_cases h1 : bfx D t x u
      · have : bfx D t x v := by unfold bfx at *; omega
        rw [if_pos h1, if_pos this]
        omega
      · rw [if_neg h1]
        split <;> omega
    · have : ¬ bfx D t u u := by unfold bfx; omega
      rw [if_pos h, if_neg this]
      omega
  omega
theorem bfk_in (D : Nat → Int) (t : Nat → Nat) {v : Nat} (hv : v < 8) : 0 ≤ bfk D t v ∧ bfk D t v ≤ 7 := by
  classical
  unfold bfk
  constructor
  · exact s8_nn fun x _ => by (try dsimp only); split <;> omega
  · have e : s8 (fun x => if bfx D t x v then (1 : Int) else 0) + s8 (fun x => if bfx D t x v then 0 else 1) = 8 := by
      rw [← s8_add]
      rw [s8_congr (G := fun _ => 1)]
      · rfl
      · intro x _
        try dsimp only
        split <;> rfl
    have h2 : 0 < s8 (fun x => if bfx D t x v then (0 : Int) else 1) := s8_pos (k := v) (fun x _ => by (try dsimp only); split <;> omega) hv (by
      have : ¬ bfx D t v v := by unfold bfx; omega
      rw [if_neg this]
      omega)
    omega
/-- what is reached is not much below 0 -/
theorem bfJ_low {L : List Nat} (hL : ∀ a ∈ L, tl a < 8 ∧ -1000 ≤ wt a) {s : Bs} (h : bfJ tl hd wt rs src p L s) {v : Nat} (hv : v < 8) : -7000 ≤ s.1 v := by
  obtain ⟨j0, j4, j1, j2, t, T, jt, j3⟩ := h
  have key : ∀ (n : Nat) (v : Nat), v < 8 → bfk (fun x => s.1 x - p x) t v ≤ n → -1000 * (n : Int) ≤ s.1 v := by
    intro n
    induction n with
    | zero =>
      intro v hv hk
      cases hs : s.2 v with
      | none =>
        rcases j1 v hv hs with h | h
        · rw [h]; decide
        · rw [h.1]; decide
      | some a =>
        have h1 := j2 v a hv hs
        have h2 := bfk_lt (hL a h1.1).1 (j3 v a hv hs)
        have h3 := (bfk_in (fun x => s.1 x - p x) t (hL a h1.1).1).1
        omega
    | succ n ih =>
      intro v hv hk
      cases hs : s.2 v with
      | none =>
        rcases j1 v hv hs with h | h
        · rw [h]; unfold bfI; omega
        · rw [h.1]; omega
      | some a =>
        have h1 := j2 v a hv hs
        have h2 := bfk_lt (hL a h1.1).1 (j3 v a hv hs)
        have h3 := ih (tl a) (hL a h1.1).1 (by omega)
        have h4 := (hL a h1.1).2
        omega
  have := key 7 v hv (bfk_in _ t hv).2
  omega
theorem bfr_dec {L : List Nat} : ∀ (l : List Nat) (s : Bs), (∀ a ∈ l, hd a < 8) → bfc tl hd wt rs l s = true → s8 (bfr tl hd wt rs l s).1 < s8 s.1
  | a :: l, s, hl, h => by
    unfold bfr
    have hmono : s8 (bfr tl hd wt rs l (bf1 tl hd wt rs a s)).1 ≤ s8 (bf1 tl hd wt rs a s).1 := by
      have : 0 ≤ s8 (fun v => (bf1 tl hd wt rs a s).1 v - (bfr tl hd wt rs l (bf1 tl hd wt rs a s)).1 v) := s8_nn fun v _ => by have := bfr_le (tl := tl) (hd := hd) (wt := wt) (rs := rs) l (bf1 tl hd wt rs a s) v; (try dsimp only); omega
      rw [s8_sub] at this
      exact Int.sub_nonneg.mp this
    unfold bfc at h
    by_cases hg : bfg tl hd wt rs a s = true
    · have h1 : s8 (bf1 tl hd wt rs a s).1 < s8 s.1 := by
        have : 0 < s8 (fun v => s.1 v - (bf1 tl hd wt rs a s).1 v) := by
          refine s8_pos (k := hd a) (fun v _ => by have := bf1_le (tl := tl) (hd := hd) (wt := wt) (rs := rs) (a := a) (s := s) v; (try dsimp only); omega) (hl a List.mem_cons_self) ?_
          have := bfg_iff.mp hg
          unfold bf1
          rw [if_pos hg]
          try dsimp only
          rw [if_pos rfl]
          omega
        rw [s8_sub] at this
        exact Int.sub_pos.mp this
      omega
    · rw [Bool.not_eq_true] at hg
      rw [hg, Bool.false_or] at h
      have e : bf1 tl hd wt rs a s = s := by unfold bf1; rw [if_neg (by rw [hg]; decide)]
      rw [e] at h ⊢
      exact bfr_dec (L := L) l s (fun b hb => hl b (List.mem_cons_of_mem _ hb)) h
/-- behind seven rounds a round betters nothing -/
theorem bf_fix {L : List Nat} (hL : ∀ a ∈ L, tl a < 8 ∧ hd a < 8 ∧ (rs a = true → 0 ≤ wt a + p (tl a) - p (hd a)) ∧ -1000 ≤ wt a) {s : Bs} (h : bfJ tl hd wt rs src p L s) (h0 : ∀ v, v < 8 → src v = true → s.1 v = 0) (hs0 : ∀ v, v < 8 → src v = false → s.1 v = bfI) : bfc tl hd wt rs L (bfn tl hd wt rs L 7 s) = false := by
  have hL1 : ∀ a ∈ L, tl a < 8 ∧ hd a < 8 ∧ (rs a = true → 0 ≤ wt a + p (tl a) - p (hd a)) := fun a ha => ⟨(hL a ha).1, (hL a ha).2.1, (hL a ha).2.2.1⟩
  have hL2 : ∀ a ∈ L, tl a < 8 ∧ -1000 ≤ wt a := fun a ha => ⟨(hL a ha).1, (hL a ha).2.2.2⟩
  have hJ := bfn_J hL1 h
  have hex : ∃ n, bfc tl hd wt rs L (bfn tl hd wt rs L n s) = false := by
    apply Classical.byContradiction
    intro hn
    have hall : ∀ n, bfc tl hd wt rs L (bfn tl hd wt rs L n s) = true := fun n => by
      cases hc : bfc tl hd wt rs L (bfn tl hd wt rs L n s) with
      | true => rfl
      | false => exact absurd ⟨n, hc⟩ hn
    have hd' : ∀ n : Nat, s8 (bfn tl hd wt rs L n s).1 + (n : Int) ≤ s8 s.1 := by
      intro n
      induction n with
      | zero => show s8 s.1 + 0 ≤ _; omega
      | succ n ih =>
        have := bfr_dec (L := L) L _ (fun a ha => (hL a ha).2.1) (hall n)
        show s8 (bfr tl hd wt rs L (bfn tl hd wt rs L n s)).1 + ((n + 1 : Nat) : Int) ≤ _
        omega
    have h1 := hd' (s8 s.1 + 56001).toNat
    have h2 : -56000 ≤ s8 (bfn tl hd wt rs L (s8 s.1 + 56001).toNat s).1 := by
      have hj := hJ (s8 s.1 + 56001).toNat
      have := fun v hv => bfJ_low hL2 hj (v := v) hv
      have h3 : 0 ≤ s8 (fun v => (bfn tl hd wt rs L (s8 s.1 + 56001).toNat s).1 v + 7000) := s8_nn fun v hv => by have := this v hv; (try dsimp only); omega
      rw [s8_add (fun v => (bfn tl hd wt rs L (s8 s.1 + 56001).toNat s).1 v) (fun _ => 7000)] at h3
      have h4 : s8 (fun _ => 7000) = 56000 := rfl
      have h5 : s8 (fun v => (bfn tl hd wt rs L (s8 s.1 + 56001).toNat s).1 v) = s8 (bfn tl hd wt rs L (s8 s.1 + 56001).toNat s).1 := rfl
      omega
    omega
  obtain ⟨n0, hn0⟩ := hex
  obtain ⟨hf1, hf2⟩ := bfc_false _ _ hn0
  have hstay : ∀ k, bfn tl hd wt rs L (n0 + k) s = bfn tl hd wt rs L n0 s := by
    intro k
    induction k with
    | zero => rfl
    | succ k ih =>
      show bfr tl hd wt rs L (bfn tl hd wt rs L (n0 + k) s) = _
      rw [ih, hf1]
  have hlow : ∀ n v, (bfn tl hd wt rs L n0 s).1 v ≤ (bfn tl hd wt rs L n s).1 v := by
    intro n v
    by_cases hn : n ≤ n0
    · have := bfn_le (tl := tl) (hd := hd) (wt := wt) (rs := rs) L s v n (n0 - n)
      rw [Nat.add_sub_cancel' hn] at this
      exact this
    · have := hstay (n - n0)
      rw [Nat.add_sub_cancel' (by omega)] at this
      rw [this]
      exact Int.le_refl _
  obtain ⟨j0, j4, j1, j2, t, T, jt, j3⟩ := hJ n0
  have key : ∀ (n : Nat) (v : Nat), v < 8 → bfk (fun x => (bfn tl hd wt rs L n0 s).1 x - p x) t v ≤ n → (bfn tl hd wt rs L n s).1 v ≤ (bfn tl hd wt rs L n0 s).1 v := by
    intro n
    induction n with
    | zero =>
      intro v hv hk
      cases hs : (bfn tl hd wt rs L n0 s).2 v with
      | none =>
        rcases j1 v hv hs with h1 | ⟨h1, h2⟩
        · rw [h1]; exact h.1 v hv
        · rw [h1]
          show s.1 v ≤ 0
          rw [h0 v hv h2]
          exact Int.le_refl _
      | some a =>
        have h1 := j2 v a hv hs
        have h2 := bfk_lt (hL a h1.1).1 (j3 v a hv hs)
        have h3 := (bfk_in (fun x => (bfn tl hd wt rs L n0 s).1 x - p x) t (hL a h1.1).1).1
        omega
    | succ n ih =>
      intro v hv hk
      cases hs : (bfn tl hd wt rs L n0 s).2 v with
      | none =>
        rcases j1 v hv hs with h1 | ⟨h1, h2⟩
        · rw [h1]; exact (hJ (n + 1)).1 v hv
        · rw [h1]
          have := (hJ (n + 1)).2.1 v hv h2
          exact this
      | some a =>
        obtain ⟨k1, k2, k3, k4, k5, k6⟩ := j2 v a hv hs
        have h2 := bfk_lt (hL a k1).1 (j3 v a hv hs)
        have h3 := ih (tl a) (hL a k1).1 (by omega)
        have h4 := bfr_arc (tl := tl) (hd := hd) (wt := wt) (rs := rs) L (bfn tl hd wt rs L n s) a k1 k3 (by omega)
        rw [k2] at h4
        show (bfr tl hd wt rs L (bfn tl hd wt rs L n s)).1 v ≤ _
        omega
  have heq : ∀ n, 7 ≤ n → ∀ v, v < 8 → (bfn tl hd wt rs L n s).1 v = (bfn tl hd wt rs L n0 s).1 v := by
    intro n hn v hv
    have h1 := key n v hv (by have := (bfk_in (fun x => (bfn tl hd wt rs L n0 s).1 x - p x) t hv).2; omega)
    have h2 := hlow n v
    omega
  cases hc : bfc tl hd wt rs L (bfn tl hd wt rs L 7 s) with
  | false => rfl
  | true =>
    exfalso
    have h1 := bfr_dec (L := L) L _ (fun a ha => (hL a ha).2.1) hc
    have h2 : s8 (bfr tl hd wt rs L (bfn tl hd wt rs L 7 s)).1 = s8 (bfn tl hd wt rs L 7 s).1 := s8_congr fun v hv => (heq 8 (by omega) v hv).trans (heq 7 (by omega) v hv).symm
    omega
end BF
