/-! towns: a plain reader -/
abbrev Rs : Type := Bool × Nat × List Nat
section GR
variable (T : Nat → Nat) (e : Nat)
def cAt (p c : Nat) : Bool := decide (p < e) && decide (T p = c)
def dgt (p : Nat) : Bool := decide (p < e) && (decide (48 ≤ T p) && decide (T p ≤ 57))
def aNum (p : Nat) : Bool × Nat × Nat := if dgt T e p = true then (if 48 < T p ∧ dgt T e (p + 1) = true then (true, p + 2, (T p - 48) * 10 + (T (p + 1) - 48)) else (true, p + 1, T p - 48)) else (false, p, 0)
def aOne (p : Nat) : List Nat → Nat → Option Nat
  | [], _ => none
  | c :: l, i => if cAt T e p c = true then some i else aOne p l (i + 1)
def aTest (p : Nat) : Rs := match aOne T e p [115, 107, 117, 100, 108] 0 with
  | none => (false, p, [])
  | some f => match aOne T e (p + 1) [60, 61, 62] 0 with
    | none => (false, p + 1, [])
    | some r => if (aNum T e (p + 2)).1 = true then (true, (aNum T e (p + 2)).2.1, [f * 300 + r * 100 + (aNum T e (p + 2)).2.2]) else (false, (aNum T e (p + 2)).2.1, [])
def aPar (r : Rs) : Rs := if r.1 = true then (if cAt T e r.2.1 41 = true then (true, r.2.1 + 1, r.2.2) else (false, r.2.1, [])) else (false, r.2.1, [])
def aPart (kr : Nat → Nat → Rs) : Nat → Nat → Rs
  | 0, p => aTest T e p
  | k + 1, p => if cAt T e p 33 = true then ((aPart kr k (p + 1)).1, (aPart kr k (p + 1)).2.1, (aPart kr k (p + 1)).2.2 ++ [2000]) else if cAt T e p 40 = true then aPar T e (kr k (p + 1)) else aTest T e p
def aLoop (c code : Nat) (f : Nat → Rs) : Nat → Nat → List Nat → Rs
  | 0, p, o => (true, p, o)
  | m + 1, p, o => if cAt T e p c = true then (if (f (p + 1)).1 = true then aLoop c code f m (f (p + 1)).2.1 (o ++ (f (p + 1)).2.2 ++ [code]) else (false, (f (p + 1)).2.1, [])) else (true, p, o)
def aSeq (c code : Nat) (f : Nat → Rs) (p : Nat) : Rs := if (f p).1 = true then aLoop T e c code f 100 (f p).2.1 (f p).2.2 else (false, (f p).2.1, [])
def aBo (kr : Nat → Nat → Rs) (k p : Nat) : Rs := aSeq T e 38 2001 (aPart T e kr k) p
def aEiB (kr : Nat → Nat → Rs) (k p : Nat) : Rs := aSeq T e 124 2002 (aBo T e kr k) p
def aEi : Nat → Nat → Nat → Rs
  | 0 => fun _ p => (false, p, [])
  | D + 1 => aEiB T e (aEi D)
def EI (k p : Nat) : Rs := aEi T e (k + 1) k p
def aLit : List Nat → Nat → Bool × Nat
  | [], p => (true, p)
  | c :: l, p => if cAt T e p c = true then aLit l (p + 1) else (false, p)
def aRest (w : Nat) (l : List Nat) (p : Nat) : Bool × Nat × Nat × Nat := if (aLit T e l p).1 = true then (if (aNum T e (aLit T e l p).2).1 = true then (if cAt T e (aNum T e (aLit T e l p).2).2.1 32 = true then (true, (aNum T e (aLit T e l p).2).2.1 + 1, w, (aNum T e (aLit T e l p).2).2.2) else (false, (aNum T e (aLit T e l p).2).2.1, 0, 0)) else (false, (aNum T e (aLit T e l p).2).2.1, 0, 0)) else (false, (aLit T e l p).2, 0, 0)
def aHead (p : Nat) : Bool × Nat × Nat × Nat := if cAt T e p 102 = true then aRest T e 0 [105, 110, 101, 32] (p + 1) else if cAt T e p 115 = true then aRest T e 1 [116, 101, 112, 32] (p + 1) else if cAt T e p 97 = true then aRest T e 2 [108, 108, 111, 119, 32] (p + 1) else (false, p, 0, 0)
/-- a clause: read or not, the place, it -/
def aCl (p : Nat) : Bool × Nat × (Nat × Nat × List Nat) := if (aHead T e p).1 = true then ((EI T e 5 (aHead T e p).2.1).1, (EI T e 5 (aHead T e p).2.1).2.1, ((aHead T e p).2.2.1, (aHead T e p).2.2.2, (EI T e 5 (aHead T e p).2.1).2.2)) else (false, (aHead T e p).2.1, (0, 0, []))
def aTown : Nat → Tw → Nat → Bool × Nat × Tw
  | 0, _, p => (false, p, [])
  | m + 1, pre, p => if (aCl T e p).1 = true then (if (aCl T e p).2.1 = e then (true, e, pre ++ [(aCl T e p).2.2]) else if m = 0 ∨ cAt T e (aCl T e p).2.1 59 = false then (false, (aCl T e p).2.1, []) else aTown m (pre ++ [(aCl T e p).2.2]) ((aCl T e p).2.1 + 1)) else (false, (aCl T e p).2.1, [])
end GR
section GL
variable {T : Nat → Nat} {e : Nat}
theorem cAt_lt {p c : Nat} (h : cAt T e p c = true) : p < e ∧ T p = c := by
  unfold cAt at h
  rw [Bool.and_eq_true, decide_eq_true_eq, decide_eq_true_eq] at h
  exact h
theorem cAt_F {p c : Nat} (h : cAt T e p c = false) : ¬ (p < e ∧ T p = c) := fun q => by
  unfold cAt at h
  rw [decide_eq_true q.1, decide_eq_true q.2] at h
  cases h
theorem dgt_lt {p : Nat} (h : dgt T e p = true) : p < e ∧ 48 ≤ T p ∧ T p ≤ 57 := by
  unfold dgt at h
  rw [Bool.and_eq_true, Bool.and_eq_true, decide_eq_true_eq, decide_eq_true_eq, decide_eq_true_eq] at h
  exact h
theorem dgt_F {p : Nat} (h : ¬ dgt T e p = true) : ¬ (p < e ∧ 48 ≤ T p ∧ T p ≤ 57) := fun q => h (by
  unfold dgt
  rw [decide_eq_true q.1, decide_eq_true q.2.1, decide_eq_true q.2.2]
  rfl)
/-- what a number is -/
theorem aNum_P {p : Nat} (hp : p ≤ e) : p ≤ (aNum T e p).2.1 ∧ (aNum T e p).2.1 ≤ e ∧ ((aNum T e p).1 = true → p + 1 ≤ (aNum T e p).2.1 ∧ (aNum T e p).2.2 < 100) := by
  unfold aNum
  by_cases h : dgt T e p = true
  · rw [if_pos h]
    obtain ⟨h1, h2, h3⟩ := dgt_lt h
    by_cases g : 48 < T p ∧ dgt T e (p + 1) = true
    · rw [if_pos g]
      obtain ⟨g1, g2, g3⟩ := dgt_lt g.2
      exact ⟨by show p ≤ p + 2; omega, by show p + 2 ≤ e; omega, fun _ => ⟨by show p + 1 ≤ p + 2; omega, by show (T p - 48) * 10 + (T (p + 1) - 48) < 100; omega⟩⟩
    · rw [if_neg g]
      exact ⟨by show p ≤ p + 1; omega, by show p + 1 ≤ e; omega, fun _ => ⟨Nat.le_refl _, by show T p - 48 < 100; omega⟩⟩
  · rw [if_neg h]
    exact ⟨Nat.le_refl _, hp, fun q => by cases q⟩
theorem aOne_P {p : Nat} : ∀ (l : List Nat) (i j : Nat), aOne T e p l i = some j → p < e ∧ i ≤ j ∧ j < i + l.length
  | [], i, j, h => by cases h
  | c :: l, i, j, h => by
    unfold aOne at h
    rw [List.length_cons]
    by_cases q : cAt T e p c = true
    · rw [if_pos q] at h
      cases h
      exact ⟨(cAt_lt q).1, Nat.le_refl _, by omega⟩
    · rw [if_neg q] at h
      obtain ⟨h1, h2, h3⟩ := aOne_P l (i + 1) j h
      exact ⟨h1, by omega, by omega⟩
/-- what a reader's answer has: the place goes on, and a code costs a sign -/
def Gd (T : Nat → Nat) (e : Nat) (r : Nat → Rs) : Prop := ∀ p, p ≤ e → p ≤ (r p).2.1 ∧ (r p).2.1 ≤ e ∧ ((r p).1 = true → p + (r p).2.2.length ≤ (r p).2.1)
/-- its codes leave one operand more, where w places are left -/
def Dp (T : Nat → Nat) (e : Nat) (r : Nat → Rs) (w : Nat) : Prop := ∀ p, (r p).1 = true → ∀ d l, d + w ≤ 16 → cdep ((r p).2.2 ++ l) d = cdep l (d + 1)
theorem aTest_G : Gd T e (aTest T e) := by
  intro p hp
  unfold aTest
  cases h1 : aOne T e p [115, 107, 117, 100, 108] 0 with
  | none => exact ⟨Nat.le_refl _, hp, fun q => by cases q⟩
  | some f =>
    have k1 := (aOne_P _ _ _ h1).1
    cases h2 : aOne T e (p + 1) [60, 61, 62] 0 with
    | none => exact ⟨by show p ≤ p + 1; omega, by show p + 1 ≤ e; omega, fun q => by cases q⟩
    | some r =>
      have k2 := (aOne_P _ _ _ h2).1
      obtain ⟨n1, n2, n3⟩ := aNum_P (T := T) (e := e) (p := p + 2) (by omega)
      dsimp only
      by_cases h : (aNum T e (p + 2)).1 = true
      · rw [if_pos h]
        have := n3 h
        exact ⟨by show p ≤ (aNum T e (p + 2)).2.1; omega, n2, fun _ => by show p + 1 ≤ (aNum T e (p + 2)).2.1; omega⟩
      · rw [if_neg h]
        exact ⟨by show p ≤ (aNum T e (p + 2)).2.1; omega, n2, fun q => by cases q⟩
theorem aTest_D {w : Nat} (hw : 1 ≤ w) : Dp T e (aTest T e) w := by
  intro p hok d l hd
  unfold aTest at hok ⊢
  cases h1 : aOne T e p [115, 107, 117, 100, 108] 0 with
  | none => rw [h1] at hok; cases hok
  | some f =>
    rw [h1] at hok
    have k1 := aOne_P _ _ _ h1
    dsimp only at hok ⊢
    cases h2 : aOne T e (p + 1) [60, 61, 62] 0 with
    | none => rw [h2] at hok; cases hok
    | some r =>
      rw [h2] at hok
      have k2 := aOne_P _ _ _ h2
      dsimp only at hok ⊢
      by_cases h : (aNum T e (p + 2)).1 = true
      · rw [if_pos h]
        have n3 := ((aNum_P (T := T) (e := e) (p := p + 2) (by omega)).2.2 h).2
        have k1' : f < 5 := k1.2.2
        have k2' : r < 3 := k2.2.2
        show cdep ((f * 300 + r * 100 + (aNum T e (p + 2)).2.2) :: l) d = _
        rw [cdep]
        rw [if_pos (by omega), if_pos (by omega)]
      · rw [if_neg h] at hok
        cases hok
theorem aPar_G {r : Nat → Rs} (h : Gd T e r) {p : Nat} (hp : p + 1 ≤ e) : p ≤ (aPar T e (r (p + 1))).2.1 ∧ (aPar T e (r (p + 1))).2.1 ≤ e ∧ ((aPar T e (r (p + 1))).1 = true → p + (aPar T e (r (p + 1))).2.2.length ≤ (aPar T e (r (p + 1))).2.1) := by
  obtain ⟨g1, g2, g3⟩ := h (p + 1) hp
  unfold aPar
  by_cases h1 : (r (p + 1)).1 = true
  · rw [if_pos h1]
    have := g3 h1
    by_cases h2 : cAt T e (r (p + 1)).2.1 41 = true
    · rw [if_pos h2]
      have := (cAt_lt h2).1
      exact ⟨by show p ≤ (r (p + 1)).2.1 + 1; omega, by show (r (p + 1)).2.1 + 1 ≤ e; omega, fun _ => by show p + (r (p + 1)).2.2.length ≤ (r (p + 1)).2.1 + 1; omega⟩
    · rw [if_neg h2]
      exact ⟨by show p ≤ (r (p + 1)).2.1; omega, g2, fun q => by cases q⟩
  · rw [if_neg h1]
    exact ⟨by show p ≤ (r (p + 1)).2.1; omega, g2, fun q => by cases q⟩
theorem aPart_G {kr : Nat → Nat → Rs} (h : ∀ k, Gd T e (kr k)) : ∀ k, Gd T e (aPart T e kr k)
  | 0 => aTest_G
  | k + 1 => by
    intro p hp
    show p ≤ (if cAt T e p 33 = true then ((aPart T e kr k (p + 1)).1, (aPart T e kr k (p + 1)).2.1, (aPart T e kr k (p + 1)).2.2 ++ [2000]) else if cAt T e p 40 = true then aPar T e (kr k (p + 1)) else aTest T e p : Rs).2.1 ∧ (if cAt T e p 33 = true then ((aPart T e kr k (p + 1)).1, (aPart T e kr k (p + 1)).2.1, (aPart T e kr k (p + 1)).2.2 ++ [2000]) else if cAt T e p 40 = true then aPar T e (kr k (p + 1)) else aTest T e p : Rs).2.1 ≤ e ∧ ((if cAt T e p 33 = true then ((aPart T e kr k (p + 1)).1, (aPart T e kr k (p + 1)).2.1, (aPart T e kr k (p + 1)).2.2 ++ [2000]) else if cAt T e p 40 = true then aPar T e (kr k (p + 1)) else aTest T e p : Rs).1 = true → p + (if cAt T e p 33 = true then ((aPart T e kr k (p + 1)).1, (aPart T e kr k (p + 1)).2.1, (aPart T e kr k (p + 1)).2.2 ++ [2000]) else if cAt T e p 40 = true then aPar T e (kr k (p + 1)) else aTest T e p : Rs).2.2.length ≤ (if cAt T e p 33 = true then ((aPart T e kr k (p + 1)).1, (aPart T e kr k (p + 1)).2.1, (aPart T e kr k (p + 1)).2.2 ++ [2000]) else if cAt T e p 40 = true then aPar T e (kr k (p + 1)) else aTest T e p : Rs).2.1)
    by_cases h1 : cAt T e p 33 = true
    · rw [if_pos h1]
      have hl := (cAt_lt h1).1
      obtain ⟨g1, g2, g3⟩ := aPart_G h k (p + 1) (by omega)
      refine ⟨by show p ≤ (aPart T e kr k (p + 1)).2.1; omega, g2, fun q => ?_⟩
      have := g3 q
      show p + ((aPart T e kr k (p + 1)).2.2 ++ [2000]).length ≤ (aPart T e kr k (p + 1)).2.1
      rw [List.length_append]
      show p + ((aPart T e kr k (p + 1)).2.2.length + 1) ≤ _
      omega
    · rw [if_neg h1]
      by_cases h2 : cAt T e p 40 = true
      · rw [if_pos h2]
        have hl := (cAt_lt h2).1
        exact aPar_G (h k) (by omega)
      · rw [if_neg h2]
        exact aTest_G p hp
theorem aLoop_G {c code : Nat} {f : Nat → Rs} (h : Gd T e f) : ∀ m p o p0, p0 + o.length ≤ p → p ≤ e → p0 ≤ (aLoop T e c code f m p o).2.1 ∧ (aLoop T e c code f m p o).2.1 ≤ e ∧ ((aLoop T e c code f m p o).1 = true → p0 + (aLoop T e c code f m p o).2.2.length ≤ (aLoop T e c code f m p o).2.1)
  | 0, p, o, p0, h0, hp => ⟨by show p0 ≤ p; omega, hp, fun _ => h0⟩
  | m + 1, p, o, p0, h0, hp => by
    unfold aLoop
    by_cases h1 : cAt T e p c = true
    · rw [if_pos h1]
      have hl := (cAt_lt h1).1
      obtain ⟨g1, g2, g3⟩ := h (p + 1) (by omega)
      by_cases h2 : (f (p + 1)).1 = true
      · rw [if_pos h2]
        have := g3 h2
        refine aLoop_G h m _ _ p0 ?_ g2
        rw [List.length_append, List.length_append]
        show p0 + (o.length + (f (p + 1)).2.2.length + 1) ≤ _
        omega
      · rw [if_neg h2]
        exact ⟨by show p0 ≤ (f (p + 1)).2.1; omega, g2, fun q => by cases q⟩
    · rw [if_neg h1]
      exact ⟨by show p0 ≤ p; omega, hp, fun _ => h0⟩
theorem aSeq_G {c code : Nat} {f : Nat → Rs} (h : Gd T e f) : Gd T e (aSeq T e c code f) := by
  intro p hp
  obtain ⟨g1, g2, g3⟩ := h p hp
  unfold aSeq
  by_cases h1 : (f p).1 = true
  · rw [if_pos h1]
    exact aLoop_G h 100 _ _ p (g3 h1) g2
  · rw [if_neg h1]
    exact ⟨g1, g2, fun q => by cases q⟩
theorem aEi_G : ∀ D k, Gd T e (aEi T e D k)
  | 0, k => fun p hp => ⟨Nat.le_refl _, hp, fun q => by cases q⟩
  | D + 1, k => aSeq_G (aSeq_G (aPart_G (aEi_G D) k))
theorem EI_G (k : Nat) : Gd T e (EI T e k) := aEi_G (k + 1) k
theorem aLoop_D {c code w : Nat} {f : Nat → Rs} (hc : code = 2001 ∨ code = 2002) (h : Dp T e f w) : ∀ m p o, (∀ d l, d + (w + 1) ≤ 16 → cdep (o ++ l) d = cdep l (d + 1)) → (aLoop T e c code f m p o).1 = true → ∀ d l, d + (w + 1) ≤ 16 → cdep ((aLoop T e c code f m p o).2.2 ++ l) d = cdep l (d + 1)
  | 0, p, o, ho, _ => ho
  | m + 1, p, o, ho, hok => by
    unfold aLoop at hok ⊢
    by_cases h1 : cAt T e p c = true
    · rw [if_pos h1] at hok ⊢
      by_cases h2 : (f (p + 1)).1 = true
      · rw [if_pos h2] at hok ⊢
        refine aLoop_D hc h m _ _ (fun d l hd => ?_) hok
        rw [List.append_assoc, List.append_assoc, ho d _ hd, h (p + 1) h2 (d + 1) _ (by omega)]
        show cdep (code :: l) (d + 1 + 1) = _
        rw [cdep]
        rw [if_neg (by omega), if_neg (by omega), if_pos hc, if_pos (by omega)]
        rfl
      · rw [if_neg h2] at hok
        cases hok
    · rw [if_neg h1] at hok ⊢
      exact ho
theorem aSeq_D {c code w : Nat} {f : Nat → Rs} (hc : code = 2001 ∨ code = 2002) (h : Dp T e f w) : Dp T e (aSeq T e c code f) (w + 1) := by
  intro p hok d l hd
  unfold aSeq at hok ⊢
  by_cases h1 : (f p).1 = true
  · rw [if_pos h1] at hok ⊢
    exact aLoop_D hc h 100 _ _ (fun d l hd => h p h1 d l (by omega)) hok d l hd
  · rw [if_neg h1] at hok
    cases hok
theorem aPart_D {kr : Nat → Nat → Rs} : ∀ k, (∀ j, j < k → Dp T e (kr j) (2 * j + 3)) → Dp T e (aPart T e kr k) (2 * k + 1)
  | 0, _ => aTest_D (by omega)
  | k + 1, h => by
    intro p hok d l hd
    have ih := aPart_D k (fun j hj => h j (by omega))
    have e1 : aPart T e kr (k + 1) p = if cAt T e p 33 = true then ((aPart T e kr k (p + 1)).1, (aPart T e kr k (p + 1)).2.1, (aPart T e kr k (p + 1)).2.2 ++ [2000]) else if cAt T e p 40 = true then aPar T e (kr k (p + 1)) else aTest T e p := rfl
    rw [e1] at hok ⊢
    by_cases h1 : cAt T e p 33 = true
    · rw [if_pos h1] at hok ⊢
      show cdep (((aPart T e kr k (p + 1)).2.2 ++ [2000]) ++ l) d = _
      rw [List.append_assoc, ih (p + 1) hok d _ (by omega)]
      show cdep (2000 :: l) (d + 1) = _
      rw [cdep]
      rw [if_neg (by omega), if_pos rfl, if_pos (by omega)]
    · rw [if_neg h1] at hok ⊢
      by_cases h2 : cAt T e p 40 = true
      · rw [if_pos h2] at hok ⊢
        unfold aPar at hok ⊢
        by_cases h3 : (kr k (p + 1)).1 = true
        · rw [if_pos h3] at hok ⊢
          by_cases h4 : cAt T e (kr k (p + 1)).2.1 41 = true
          · rw [if_pos h4]
            exact h k (Nat.lt_succ_self k) (p + 1) h3 d l (by omega)
          · rw [if_neg h4] at hok
            cases hok
        · rw [if_neg h3] at hok
          cases hok
      · rw [if_neg h2] at hok ⊢
        exact aTest_D (w := 2 * (k + 1) + 1) (by omega) p hok d l hd
theorem aEi_D : ∀ D k, k < D → Dp T e (aEi T e D k) (2 * k + 3)
  | 0, k, h => absurd h (Nat.not_lt_zero k)
  | D + 1, k, h => aSeq_D (Or.inr rfl) (aSeq_D (Or.inl rfl) (aPart_D k (fun j hj => aEi_D D j (by omega))))
theorem EI_D (k : Nat) : Dp T e (EI T e k) (2 * k + 3) := aEi_D (k + 1) k (Nat.lt_succ_self k)
theorem aPart_c {kr kr' : Nat → Nat → Rs} : ∀ k, (∀ j, j < k → kr j = kr' j) → aPart T e kr k = aPart T e kr' k
  | 0, _ => rfl
  | k + 1, h => by
    have ih := aPart_c k (fun j hj => h j (by omega))
    funext p
    show (if cAt T e p 33 = true then ((aPart T e kr k (p + 1)).1, (aPart T e kr k (p + 1)).2.1, (aPart T e kr k (p + 1)).2.2 ++ [2000]) else if cAt T e p 40 = true then aPar T e (kr k (p + 1)) else aTest T e p : Rs) = (if cAt T e p 33 = true then ((aPart T e kr' k (p + 1)).1, (aPart T e kr' k (p + 1)).2.1, (aPart T e kr' k (p + 1)).2.2 ++ [2000]) else if cAt T e p 40 = true then aPar T e (kr' k (p + 1)) else aTest T e p : Rs)
    rw [ih, h k (Nat.lt_succ_self k)]
theorem aEiB_c {kr kr' : Nat → Nat → Rs} (k : Nat) (h : ∀ j, j < k → kr j = kr' j) : aEiB T e kr k = aEiB T e kr' k := by
  unfold aEiB aBo
  rw [aPart_c k h]
theorem aEi_EI : ∀ D k, k < D → aEi T e D k = EI T e k
  | 0, k, h => absurd h (Nat.not_lt_zero k)
  | D + 1, k, h => by
    show aEiB T e (aEi T e D) k = aEiB T e (aEi T e k) k
    refine aEiB_c k (fun j hj => ?_)
    rw [aEi_EI D j (by omega)]
    by_cases q : k = 0
    · omega
    · obtain ⟨k', rfl⟩ : ∃ k', k = k' + 1 := ⟨k - 1, by omega⟩
      by_cases hd : k' + 1 ≤ D
      · exact (aEi_EI (k' + 1) j hj).symm
      · omega
  termination_by D k _ => D
theorem EI_eq (k : Nat) : EI T e k = aEiB T e (EI T e) k := by
  show aEiB T e (aEi T e k) k = _
  exact aEiB_c k (fun j hj => aEi_EI k j hj)
theorem aLit_P : ∀ (l : List Nat) (p : Nat), p ≤ e → p ≤ (aLit T e l p).2 ∧ (aLit T e l p).2 ≤ e
  | [], p, hp => ⟨Nat.le_refl _, hp⟩
  | c :: l, p, hp => by
    unfold aLit
    by_cases h : cAt T e p c = true
    · rw [if_pos h]
      have := (cAt_lt h).1
      obtain ⟨h1, h2⟩ := aLit_P l (p + 1) (by omega)
      exact ⟨by omega, h2⟩
    · rw [if_neg h]
      exact ⟨Nat.le_refl _, hp⟩
theorem aRest_P {w : Nat} {l : List Nat} {p : Nat} (hp : p ≤ e) : p ≤ (aRest T e w l p).2.1 ∧ (aRest T e w l p).2.1 ≤ e ∧ ((aRest T e w l p).1 = true → p + 1 ≤ (aRest T e w l p).2.1 ∧ (aRest T e w l p).2.2.1 = w ∧ (aRest T e w l p).2.2.2 < 100) := by
  obtain ⟨l1, l2⟩ := aLit_P (T := T) (e := e) l p hp
  obtain ⟨n1, n2, n3⟩ := aNum_P (T := T) (e := e) l2
  unfold aRest
  by_cases h1 : (aLit T e l p).1 = true
  · rw [if_pos h1]
    by_cases h2 : (aNum T e (aLit T e l p).2).1 = true
    · rw [if_pos h2]
      have := n3 h2
      by_cases h3 : cAt T e (aNum T e (aLit T e l p).2).2.1 32 = true
      · rw [if_pos h3]
        have := (cAt_lt h3).1
        exact ⟨by show p ≤ (aNum T e (aLit T e l p).2).2.1 + 1; omega, by show (aNum T e (aLit T e l p).2).2.1 + 1 ≤ e; omega, fun _ => ⟨by show p + 1 ≤ (aNum T e (aLit T e l p).2).2.1 + 1; omega, rfl, by show (aNum T e (aLit T e l p).2).2.2 < 100; omega⟩⟩
      · rw [if_neg h3]
        exact ⟨by show p ≤ (aNum T e (aLit T e l p).2).2.1; omega, n2, fun q => by cases q⟩
    · rw [if_neg h2]
      exact ⟨by show p ≤ (aNum T e (aLit T e l p).2).2.1; omega, n2, fun q => by cases q⟩
  · rw [if_neg h1]
    exact ⟨l1, l2, fun q => by cases q⟩
theorem aHead_P {p : Nat} (hp : p ≤ e) : p ≤ (aHead T e p).2.1 ∧ (aHead T e p).2.1 ≤ e ∧ ((aHead T e p).1 = true → p + 1 ≤ (aHead T e p).2.1 ∧ (aHead T e p).2.2.1 < 3 ∧ (aHead T e p).2.2.2 < 100) := by
  unfold aHead
  by_cases h1 : cAt T e p 102 = true
  · rw [if_pos h1]
    have := (cAt_lt h1).1
    obtain ⟨g1, g2, g3⟩ := aRest_P (T := T) (e := e) (w := 0) (l := [105, 110, 101, 32]) (p := p + 1) (by omega)
    exact ⟨by omega, g2, fun q => by have := g3 q; omega⟩
  rw [if_neg h1]
  by_cases h2 : cAt T e p 115 = true
  · rw [if_pos h2]
    have := (cAt_lt h2).1
    obtain ⟨g1, g2, g3⟩ := aRest_P (T := T) (e := e) (w := 1) (l := [116, 101, 112, 32]) (p := p + 1) (by omega)
    exact ⟨by omega, g2, fun q => by have := g3 q; omega⟩
  rw [if_neg h2]
  by_cases h3 : cAt T e p 97 = true
  · rw [if_pos h3]
    have := (cAt_lt h3).1
    obtain ⟨g1, g2, g3⟩ := aRest_P (T := T) (e := e) (w := 2) (l := [108, 108, 111, 119, 32]) (p := p + 1) (by omega)
    exact ⟨by omega, g2, fun q => by have := g3 q; omega⟩
  · rw [if_neg h3]
    exact ⟨Nat.le_refl _, hp, fun q => by cases q⟩
theorem aCl_P {p : Nat} (hp : p ≤ e) : p ≤ (aCl T e p).2.1 ∧ (aCl T e p).2.1 ≤ e ∧ ((aCl T e p).1 = true → p + (aCl T e p).2.2.2.2.length + 1 ≤ (aCl T e p).2.1 ∧ (aCl T e p).2.2.1 < 3 ∧ (aCl T e p).2.2.2.1 < 100 ∧ cdep (aCl T e p).2.2.2.2 0 = some 1) := by
  obtain ⟨h1, h2, h3⟩ := aHead_P (T := T) (e := e) hp
  unfold aCl
  by_cases h : (aHead T e p).1 = true
  · rw [if_pos h]
    obtain ⟨g1, g2, g3⟩ := EI_G (T := T) (e := e) 5 _ h2
    have h4 := h3 h
    refine ⟨by show p ≤ (EI T e 5 (aHead T e p).2.1).2.1; omega, g2, fun q => ⟨?_, h4.2.1, h4.2.2, ?_⟩⟩
    · have := g3 q
      show p + (EI T e 5 (aHead T e p).2.1).2.2.length + 1 ≤ (EI T e 5 (aHead T e p).2.1).2.1
      omega
    · have := EI_D (T := T) (e := e) 5 _ q 0 [] (by omega)
      rw [List.append_nil] at this
      exact this
  · rw [if_neg h]
    exact ⟨h1, h2, fun q => by cases q⟩
theorem aTown_P (he : e ≤ 100) : ∀ m pre p, pre.length + m = 10 → p ≤ e → (twC pre).length ≤ p → twOK pre → (aTown T e m pre p).1 = true → twOK (aTown T e m pre p).2.2
  | 0, pre, p, hm, hp, hc, ho, hok => by cases hok
  | m + 1, pre, p, hm, hp, hc, ho, hok => by
    obtain ⟨g1, g2, g3⟩ := aCl_P (T := T) (e := e) hp
    unfold aTown at hok ⊢
    by_cases h1 : (aCl T e p).1 = true
    · rw [if_pos h1] at hok ⊢
      obtain ⟨q1, q2, q3, q4⟩ := g3 h1
      have hcl : (twC (pre ++ [(aCl T e p).2.2])).length = (twC pre).length + (aCl T e p).2.2.2.2.length := by
        rw [twC_app, List.length_append]
        congr 1
        show ((aCl T e p).2.2.2.2 ++ []).length = _
        rw [List.append_nil]
      have hO : twOK (pre ++ [(aCl T e p).2.2]) := by
        refine ⟨?_, ?_, fun q hq => ?_⟩
        · rw [List.length_append]
          show pre.length + 1 ≤ 10
          omega
        · rw [hcl]
          omega
        · rcases List.mem_append.mp hq with h | h
          · exact ho.2.2 q h
          · rcases List.mem_cons.mp h with rfl | h
            · exact ⟨q2, q3, q4⟩
            · cases h
      by_cases h2 : (aCl T e p).2.1 = e
      · rw [if_pos h2]
        exact hO
      · rw [if_neg h2] at hok ⊢
        by_cases h3 : m = 0 ∨ cAt T e (aCl T e p).2.1 59 = false
        · rw [if_pos h3] at hok
          cases hok
        · rw [if_neg h3] at hok ⊢
          refine aTown_P he m _ _ ?_ ?_ ?_ hO hok
          · rw [List.length_append]
            show pre.length + 1 + m = 10
            omega
          · omega
          · rw [hcl]
            omega
    · rw [if_neg h1] at hok
      cases hok
end GL
