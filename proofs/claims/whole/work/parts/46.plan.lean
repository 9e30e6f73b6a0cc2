/-! errands: plain mathematics, the class's plan -/
/-- the least of v where b, and the first place of it -/
def amf (b : Nat → Bool) (v : Nat → Nat) : Nat → Nat × Nat
  | 0 => (1000000, 0)
  | J + 1 => if b J = true ∧ v J < (amf b v J).1 then (v J, J) else amf b v J
theorem amf_congr {b : Nat → Bool} {v v' : Nat → Nat} : ∀ J, (∀ j, j < J → b j = true → v j = v' j) → amf b v J = amf b v' J
  | 0, _ => rfl
  | J + 1, h => by
    have ih := amf_congr J (fun j hj hb => h j (by omega) hb)
    show (if b J = true ∧ v J < (amf b v J).1 then (v J, J) else amf b v J) = (if b J = true ∧ v' J < (amf b v' J).1 then (v' J, J) else amf b v' J)
    rw [ih]
    by_cases hb : b J = true
    · rw [h J (by omega) hb]
    · rw [if_neg (fun q => hb q.1), if_neg (fun q => hb q.1)]
theorem amf_le (b : Nat → Bool) (v : Nat → Nat) : ∀ J, (amf b v J).1 ≤ 1000000
  | 0 => Nat.le_refl _
  | J + 1 => by
    have ih := amf_le b v J
    show (if b J = true ∧ v J < (amf b v J).1 then (v J, J) else amf b v J).1 ≤ 1000000
    split
    next h =>
      show v J ≤ 1000000
      omega
    next => exact ih
theorem amf_P (b : Nat → Bool) (v : Nat → Nat) : ∀ J, (∀ j, j < J → b j = true → (amf b v J).1 ≤ v j) ∧ ((amf b v J).1 < 1000000 → (amf b v J).2 < J ∧ b (amf b v J).2 = true ∧ v (amf b v J).2 = (amf b v J).1 ∧ ∀ j, j < (amf b v J).2 → b j = true → (amf b v J).1 < v j)
  | 0 => ⟨fun j hj => absurd hj (Nat.not_lt_zero j), fun h => absurd h (Nat.lt_irrefl _)⟩
  | J + 1 => by
    obtain ⟨i1, i2⟩ := amf_P b v J
    have hl := amf_le b v J
    have e : amf b v (J + 1) = if b J = true ∧ v J < (amf b v J).1 then (v J, J) else amf b v J := rfl
    rw [e]
    by_cases h : b J = true ∧ v J < (amf b v J).1
    · rw [if_pos h]
      refine ⟨fun j hj hb => ?_, fun _ => ⟨Nat.lt_succ_self J, h.1, rfl, fun j hj hb => ?_⟩⟩
      · show v J ≤ v j
        by_cases q : j = J
        · rw [q]
          exact Nat.le_refl _
        · have := i1 j (by omega) hb
          omega
      · show v J < v j
        have := i1 j hj hb
        omega
    · rw [if_neg h]
      refine ⟨fun j hj hb => ?_, fun hlt => ?_⟩
      · by_cases q : j = J
        · subst q
          exact Nat.le_of_not_lt (fun q => h ⟨hb, q⟩)
        · exact i1 j (by omega) hb
      · obtain ⟨g1, g2, g3, g4⟩ := i2 hlt
        exact ⟨by omega, g2, g3, g4⟩
/-- the first place where p, from s on -/
def sf (p : Nat → Bool) : Nat → Nat → Nat
  | 0, s => s
  | m + 1, s => if p s = true then s else sf p m (s + 1)
theorem sf_at {p : Nat → Bool} {a : Nat} (hp : p a = true) (hq : ∀ j, j < a → p j = false) : ∀ m s, s ≤ a → a < s + m → sf p m s = a
  | 0, s, h1, h2 => absurd h2 (by omega)
  | m + 1, s, h1, h2 => by
    show (if p s = true then s else sf p m (s + 1)) = a
    by_cases h : s = a
    · rw [h, if_pos hp]
    · rw [hq s (by omega), if_neg Bool.false_ne_true]
      exact sf_at hp hq m (s + 1) (by omega) (by omega)
def Rv (A : Ab) (home : Nat) : Nat → Nat → Nat → Nat
  | 0, _, a => wy A a home
  | f + 1, part, a => (amf (fun j => part.testBit j) (fun j => wy A a j + Rv A home f (part ^^^ 2 ^ j) j) (aS A)).1
def RV (A : Ab) (home part a : Nat) : Nat := Rv A home (popc part) part a
def vJ (A : Ab) (home part a j : Nat) : Nat := wy A a j + RV A home (part ^^^ 2 ^ j) j
def AM (A : Ab) (home part a : Nat) (J : Nat) : Nat × Nat := amf (fun j => part.testBit j) (vJ A home part a) J
theorem bit_8 : ∀ n, n < 128 → ∀ j, j < 7 → nI n ^^^ (nI 1 <<< (nI j &&& nI 31)) = nI (n ^^^ 2 ^ j) ∧ n ^^^ 2 ^ j < 128 := by decide +kernel
theorem bit_9 : ∀ n, n < 128 → ∀ j, j < 7 → n.testBit j = true → n ^^^ 2 ^ j < n ∧ popc (n ^^^ 2 ^ j) + 1 = popc n ∧ n &&& (127 ^^^ 2 ^ j) = n ^^^ 2 ^ j := by decide +kernel
theorem RV_0 (A : Ab) (home a : Nat) : RV A home 0 a = wy A a home := rfl
theorem RV_s {A : Ab} (hS : aS A ≤ 7) {home part a : Nat} (h0 : part < 128) (h : ¬ part = 0) : RV A home part a = (AM A home part a (aS A)).1 := by
  have hp : ¬ popc part = 0 := fun q => h (popc_0 part h0 q)
  unfold RV AM
  obtain ⟨f, hf⟩ : ∃ f, popc part = f + 1 := ⟨popc part - 1, by omega⟩
  rw [hf]
  show (amf (fun j => part.testBit j) (fun j => wy A a j + Rv A home f (part ^^^ 2 ^ j) j) (aS A)).1 = _
  rw [amf_congr (v' := vJ A home part a)]
  intro j hj hb
  have := (bit_9 part h0 j (by omega) hb).2.1
  show wy A a j + Rv A home f (part ^^^ 2 ^ j) j = wy A a j + Rv A home (popc (part ^^^ 2 ^ j)) (part ^^^ 2 ^ j) j
  rw [show popc (part ^^^ 2 ^ j) = f by omega]
theorem wy_le {A : Ab} (hA : AOK A) (i j : Nat) : wy A i j ≤ 1000000 := Nat.le_trans (fW_le _ i j _) (dW_le (fun i => by have := ste_le hA i; omega) i j)
theorem RV_le {A : Ab} (hA : AOK A) {home part a : Nat} (h0 : part < 128) : RV A home part a ≤ 1000000 := by
  by_cases h : part = 0
  · rw [h, RV_0]
    exact wy_le hA a home
  · rw [RV_s hA.1.1 h0 h]
    exact amf_le _ _ _
theorem RV_fin {A : Ab} (hA : AOK A) {home : Nat} (hh : home < aS A) : ∀ f part a, popc part = f → part < 128 → a < aS A → RV A home part a < 1000000 → RV A home part a ≤ 5946 * (f + 1)
  | 0, part, a, hf, h0, ha, hlt => by
    rw [popc_0 part h0 hf, RV_0] at hlt ⊢
    have := wy_rel hA ha hh
    omega
  | f + 1, part, a, hf, h0, ha, hlt => by
    have hne : ¬ part = 0 := fun q => by
      rw [q] at hf
      have : popc 0 = 0 := by decide
      omega
    rw [RV_s hA.1.1 h0 hne] at hlt ⊢
    obtain ⟨g1, g2, g3, g4⟩ := (amf_P (fun j => part.testBit j) (vJ A home part a) (aS A)).2 hlt
    have hS7 := hA.1.1
    have hb := bit_9 part h0 (AM A home part a (aS A)).2 (by have : (AM A home part a (aS A)).2 < aS A := g1; omega) g2
    have h8 := bit_8 part h0 (AM A home part a (aS A)).2 (by have : (AM A home part a (aS A)).2 < aS A := g1; omega)
    have ev : (AM A home part a (aS A)).1 = wy A a (AM A home part a (aS A)).2 + RV A home (part ^^^ 2 ^ (AM A home part a (aS A)).2) (AM A home part a (aS A)).2 := g3.symm
    have hlt' : (AM A home part a (aS A)).1 < 1000000 := hlt
    have ih := RV_fin hA hh f (part ^^^ 2 ^ (AM A home part a (aS A)).2) (AM A home part a (aS A)).2 (by omega) h8.2 g1 (by omega)
    have hw := wy_rel hA ha (show (AM A home part a (aS A)).2 < aS A from g1)
    omega
def olf (A : Ab) (home : Nat) : Nat → Nat → Nat → List Nat
  | 0, _, _ => []
  | f + 1, part, a => (AM A home part a (aS A)).2 :: olf A home f (part ^^^ 2 ^ (AM A home part a (aS A)).2) (AM A home part a (aS A)).2
def OLi (A : Ab) (home part a : Nat) : List Nat := olf A home (popc part) part a
theorem OL_0 (A : Ab) (home a : Nat) : OLi A home 0 a = [] := rfl
theorem OL_s {A : Ab} (hS : aS A ≤ 7) {home part a : Nat} (h0 : part < 128) (h : ¬ part = 0) (hlt : RV A home part a < 1000000) : OLi A home part a = (AM A home part a (aS A)).2 :: OLi A home (part ^^^ 2 ^ (AM A home part a (aS A)).2) (AM A home part a (aS A)).2 := by
  have hp : ¬ popc part = 0 := fun q => h (popc_0 part h0 q)
  rw [RV_s hS h0 h] at hlt
  obtain ⟨g1, g2, g3, g4⟩ := (amf_P (fun j => part.testBit j) (vJ A home part a) (aS A)).2 hlt
  have g1' : (AM A home part a (aS A)).2 < aS A := g1
  have hb := (bit_9 part h0 (AM A home part a (aS A)).2 (by omega) g2).2.1
  obtain ⟨f, hf⟩ : ∃ f, popc part = f + 1 := ⟨popc part - 1, by omega⟩
  unfold OLi
  rw [hf, show popc (part ^^^ 2 ^ (AM A home part a (aS A)).2) = f by omega]
  rfl
def oe (l : List Nat) (i : Nat) : Int32 := if i < l.length then nI (l.getD i 0) else -5
/-! the class's plan -/
theorem ms_1 : ∀ i, i < 32 → (-1 : Int32).toBitVec.getLsbD i = true := by decide
theorem n127 : ∀ i, i < 7 → (127 : Nat).testBit i = true := by decide
theorem bit_hi {n i : Nat} (h : n < 128) (hi : 7 ≤ i) : n.testBit i = false := Nat.testBit_lt_two_pow (Nat.lt_of_lt_of_le h (Nat.pow_le_pow_right (n := 2) (by decide) hi : 2 ^ 7 ≤ 2 ^ i))
theorem bit_sub {n m : Nat} (hn : n < 128) : nI n &&& (nI m ^^^ -1) = nI (n &&& (127 ^^^ m)) := by
  refine i_ext fun i hi => ?_
  rw [Int32.toBitVec_and, BitVec.getLsbD_and, Int32.toBitVec_xor, BitVec.getLsbD_xor, nI_bit _ _ hi, nI_bit _ _ hi, nI_bit _ _ hi, ms_1 i hi, Nat.testBit_and, Nat.testBit_xor]
  by_cases h : i < 7
  · rw [n127 i h, Bool.xor_comm]
  · rw [bit_hi hn (by omega), Bool.false_and, Bool.false_and]
theorem sub_st {n m j : Nat} (h : n &&& m = 0) (hb : n.testBit j = true) : (n ^^^ 2 ^ j) &&& m = 0 := by
  apply Nat.eq_of_testBit_eq
  intro i
  have h1 : (n &&& m).testBit i = false := by rw [h]; exact Nat.zero_testBit i
  rw [Nat.testBit_and] at h1
  rw [Nat.testBit_and, Nat.testBit_xor, Nat.zero_testBit]
  by_cases e : i = j
  · subst e
    rw [hb, Nat.testBit_two_pow_self]
    rfl
  · rw [Nat.testBit_two_pow_of_ne (by omega), Bool.xor_false]
    exact h1
/-- the rests of all parts below P -/
def TB (A : Ab) (home set P : Nat) (σ : Sg) : Prop := ∀ part, part < P → part &&& (127 ^^^ set) = 0 → ∀ a, a < aS A → ar σ 56 (part * 7 + a) = nI (RV A home part a)
theorem x_rb6 {N : Nat} {A : Ab} {σ : Sg} (hA : AOK A) (hR : CR A σ) {part a j r : Nat} (ha : a < aS A) (hj : j < aS A) (hp : part < 128) (h56 : ar σ 56 ((part ^^^ 2 ^ j) * 7 + j) = nI r) : f_X3_restBy N (nI a) (nI j) (nI part) σ = some (nI (wy A a j + r), σ) := by
  have hS7 := hA.1.1
  obtain ⟨b1, b2⟩ := bit_8 part hp j (by omega)
  unfold f_X3_restBy
  refine bd2_k (x_price6 (by omega) (by omega) (hR.2.2 a j ha hj)) ?_
  rw [l_1, l_31, b1, l_7, pk_mul, nI_add]
  refine gd_k (inb_nI (by omega) (by decide)) ?_
  rw [nI_clamp (by omega), h56, nI_add]
theorem x_lr6 {N : Nat} {A : Ab} {σ : Sg} (hA : AOK A) (hR : CR A σ) {home set part a : Nat} (ha : a < aS A) (hp : part < 128) (hs : part &&& (127 ^^^ set) = 0) (hT : TB A home set part σ) : ∀ m n J, J + m = aS A → b_X3_leastRest_6 N (n + m + 1) (nI a) (nI part) (nI (AM A home part a J).1) (nI J) σ = some (nI (AM A home part a (aS A)).1, σ)
  | 0, n, J, hj => by
    have hS7 := hA.1.1
    have e : J = aS A := by omega
    subst e
    show b_X3_leastRest_6b N (b_X3_leastRest_6 N n) _ _ _ _ _ = _
    unfold b_X3_leastRest_6b
    rw [hR.1]
    exact if_T (of_eq_true (ile_T (Nat.le_refl _) (by omega))) rfl
  | m + 1, n, J, hj => by
    have hS7 := hA.1.1
    have hJ : J < aS A := by omega
    have ih := x_lr6 (N := N) hA hR ha hp hs hT m n (J + 1) (by omega)
    have e : AM A home part a (J + 1) = if part.testBit J = true ∧ vJ A home part a J < (AM A home part a J).1 then (vJ A home part a J, J) else AM A home part a J := rfl
    have hle := amf_le (fun j => part.testBit j) (vJ A home part a) J
    have hle' : (AM A home part a J).1 ≤ 1000000 := hle
    rw [e] at ih
    show b_X3_leastRest_6b N (b_X3_leastRest_6 N (n + m + 1)) _ _ _ _ _ = _
    unfold b_X3_leastRest_6b b_X3_leastRest_38
    rw [hR.1, l_31, l_1, bit_1 _ hp J (by omega), nI_add]
    refine if_F (of_eq_false (ile_F hJ (by omega))) ?_
    cases hb : part.testBit J
    · rw [if_neg (fun q => by rw [hb] at q; exact Bool.noConfusion q.1)] at ih
      exact if_F (by decide) (nm_k ih)
    · obtain ⟨b1, b2, b3⟩ := bit_9 part hp J (by omega) hb
      have b4 := (bit_8 part hp J (by omega)).2
      have hv := hT (part ^^^ 2 ^ J) b1 (sub_st hs hb) J hJ
      have hw := wy_le hA a J
      have hr := RV_le hA (home := home) (a := J) b4
      refine if_T rfl (bd2_k (x_rb6 hA hR ha hJ hp hv) (nm_k (nm_k ?_)))
      rw [imin_nI (by omega) (by omega)]
      by_cases hlt : vJ A home part a J < (AM A home part a J).1
      · rw [if_pos ⟨hb, hlt⟩] at ih
        have hlt' : wy A a J + RV A home (part ^^^ 2 ^ J) J < (AM A home part a J).1 := hlt
        rw [Nat.min_eq_right (by omega)]
        exact ih
      · rw [if_neg (fun q => hlt q.2)] at ih
        have hlt' : ¬ wy A a J + RV A home (part ^^^ 2 ^ J) J < (AM A home part a J).1 := hlt
        rw [Nat.min_eq_left (by omega)]
        exact ih
theorem CR.o56 {A : Ab} {σ σ' : Sg} (h : CR A σ) (o : OR 56 σ σ') : CR A σ' := by
  unfold CR
  rw [o.1, o.2.2 54 (by decide), o.2.2 55 (by decide)]
  exact h
theorem x_plan17 {N : Nat} {A : Ab} (hA : AOK A) {home set part : Nat} (hh : home < aS A) (hs7 : set < 128) (hp : part < 128) (hs : part &&& (127 ^^^ set) = 0) (k2 : Int32 → Int32 → Int32 → Sg → Option Sg) : ∀ m n a σ, a + m = aS A → CR A σ → TB A home set part σ → ∃ σ', b_X3_plan_17 (N + 200) k2 (n + m + 1) (nI home) (nI set) (nI part) (nI a) σ = k2 (nI home) (nI set) (nI (part + 1)) σ' ∧ OR 56 σ σ' ∧ (∀ q, a ≤ q → q < aS A → ar σ' 56 (part * 7 + q) = nI (RV A home part q)) ∧ ∀ x, (x < part * 7 + a ∨ part * 7 + 7 ≤ x) → ar σ' 56 x = ar σ 56 x
  | 0, n, a, σ, hj, hR, hT => by
    have hS7 := hA.1.1
    have e : a = aS A := by omega
    subst e
    refine ⟨σ, ?_, OR.rf 56 σ, fun q h1 h2 => by omega, fun x _ => rfl⟩
    show b_X3_plan_17b (N + 200) k2 (b_X3_plan_17 (N + 200) k2 n) _ _ _ _ _ = _
    unfold b_X3_plan_17b b_X3_plan_73
    rw [hR.1, l_1, nI_add]
    exact if_T (of_eq_true (ile_T (Nat.le_refl _) (by omega))) rfl
  | m + 1, n, a, σ, hj, hR, hT => by
    have hS7 := hA.1.1
    have ha : a < aS A := by omega
    have hr := RV_le hA (home := home) (a := a) hp
    have o1 : OR 56 σ (sar σ 56 (part * 7 + a) (nI (RV A home part a))) := (OR.rf 56 σ).sar _ _
    obtain ⟨σ2, e2, o2, g2, g3⟩ := x_plan17 (N := N) hA hh hs7 hp hs k2 m n (a + 1) (sar σ 56 (part * 7 + a) (nI (RV A home part a))) (by omega) (hR.o56 o1) (fun p h1 h2 b hb => by rw [ar_s1 (by omega)]; exact hT p h1 h2 b hb)
    refine ⟨σ2, ?_, o1.tr o2, fun q h1 h2 => ?_, fun x hx => ?_⟩
    · have go : ∀ v : Int32, v = nI (RV A home part a) → b_X3_plan_66 (N + 200) k2 (b_X3_plan_17 (N + 200) k2 (n + m + 1)) (nI home) (nI set) (nI part) (nI a) ((nI part * 7) + nI a) v σ = k2 (nI home) (nI set) (nI (part + 1)) σ2 := by
        intro v hv
        unfold b_X3_plan_66
        rw [l_7, pk_mul, nI_add, nI_clamp (by omega), hv, l_1, nI_add]
        exact gd_k (inb_nI (by omega) (by decide)) (nm_k (nm_k e2))
      show b_X3_plan_17b (N + 200) k2 (b_X3_plan_17 (N + 200) k2 (n + m + 1)) _ _ _ _ _ = _
      unfold b_X3_plan_17b
      rw [hR.1, bit_sub hp, hs]
      refine if_F (of_eq_false (ile_F ha (by omega))) (if_T rfl ?_)
      by_cases h0 : part = 0
      · have ev : RV A home part a = wy A a home := by rw [h0, RV_0]
        exact if_T (by rw [h0]; rfl) (bd2_k (x_price6 (by omega) (by omega) (hR.2.2 a home ha hh)) (go _ (by rw [ev])))
      · have k := x_lr6 (N := N + 200) hA hR (home := home) ha hp hs hT (aS A) (N + 199 - aS A) 0 (by omega)
        rw [show N + 199 - aS A + aS A + 1 = N + 200 by omega, ← RV_s hS7 hp h0] at k
        exact if_F (of_eq_false (ieq_F h0 (by omega) (by decide))) (bd2_k (show f_X3_leastRest (N + 200) (nI a) (nI part) σ = _ from k) (go _ rfl))
    · by_cases hq : q = a
      · subst hq
        rw [g3 _ (by omega), ar_s2 ⟨rfl, rfl⟩]
      · exact g2 q (by omega) h2
    · rw [g3 x (by omega), ar_s1 (by omega)]
theorem x_plan2 {N : Nat} {A : Ab} (hA : AOK A) {home set : Nat} (hh : home < aS A) (hs7 : set < 128) : ∀ m n part σ, part + m = set + 1 → CR A σ → TB A home set part σ → ∃ σ', b_X3_plan_2 (N + 200) (n + m + 1) (nI home) (nI set) (nI part) σ = some σ' ∧ OR 56 σ σ' ∧ TB A home set (set + 1) σ'
  | 0, n, part, σ, hj, hR, hT => by
    have e : part = set + 1 := by omega
    subst e
    refine ⟨σ, ?_, OR.rf 56 σ, hT⟩
    show b_X3_plan_2b (N + 200) (b_X3_plan_2 (N + 200) n) _ _ _ _ = _
    unfold b_X3_plan_2b
    exact if_T (of_eq_true (ilt_T (Nat.lt_succ_self _) (by omega))) rfl
  | m + 1, n, part, σ, hj, hR, hT => by
    have hS7 := hA.1.1
    have hp : part < 128 := by omega
    have step : ∃ σ', b_X3_plan_17 (N + 200) (b_X3_plan_2 (N + 200) (n + m + 1)) (N + 200) (nI home) (nI set) (nI part) (nI 0) σ = b_X3_plan_2 (N + 200) (n + m + 1) (nI home) (nI set) (nI (part + 1)) σ' ∧ OR 56 σ σ' ∧ TB A home set (part + 1) σ' := by
      by_cases hs : part &&& (127 ^^^ set) = 0
      · obtain ⟨σ1, e1, o1, g1, g2⟩ := x_plan17 (N := N) hA hh hs7 hp hs (b_X3_plan_2 (N + 200) (n + m + 1)) (aS A) (N + 199 - aS A) 0 σ (by omega) hR hT
        rw [show N + 199 - aS A + aS A + 1 = N + 200 by omega] at e1
        refine ⟨σ1, e1, o1, fun p h1 h2 b hb => ?_⟩
        by_cases q : p = part
        · subst q
          exact g1 b (Nat.zero_le _) hb
        · rw [g2 _ (by omega)]
          exact hT p (by omega) h2 b hb
      · refine ⟨σ, ?_, OR.rf 56 σ, fun p h1 h2 b hb => ?_⟩
        · show b_X3_plan_17b (N + 200) (b_X3_plan_2 (N + 200) (n + m + 1)) (b_X3_plan_17 (N + 200) (b_X3_plan_2 (N + 200) (n + m + 1)) (N + 199)) _ _ _ _ _ = _
          unfold b_X3_plan_17b b_X3_plan_73
          rw [hR.1, bit_sub hp, l_1, nI_add]
          have hx : part &&& (127 ^^^ set) < 128 := Nat.lt_of_le_of_lt Nat.and_le_left hp
          by_cases hS0 : aS A = 0
          · exact if_T (by rw [hS0]; decide) rfl
          · exact if_F (of_eq_false (ile_F (by omega : 0 < aS A) (by omega))) (if_F (of_eq_false (ieq_F hs (by omega) (by decide))) rfl)
        · by_cases q : p = part
          · subst q
            exact absurd h2 hs
          · exact hT p (by omega) h2 b hb
    obtain ⟨σ1, e1, o1, t1⟩ := step
    obtain ⟨σ2, e2, o2, t2⟩ := x_plan2 (N := N) hA hh hs7 m n (part + 1) σ1 (by omega) (hR.o56 o1) t1
    refine ⟨σ2, ?_, o1.tr o2, t2⟩
    show b_X3_plan_2b (N + 200) (b_X3_plan_2 (N + 200) (n + m + 1)) _ _ _ _ = _
    unfold b_X3_plan_2b
    exact if_F (of_eq_false (ilt_F (by omega : part ≤ set) (by omega))) (if_F (of_eq_false (ile_F hp (by decide))) (e1.trans e2))
theorem x_planned {N : Nat} {A : Ab} {σ : Sg} (hA : AOK A) {home set : Nat} (hh : home < aS A) (hs7 : set < 128) (hT : TB A home set (set + 1) σ) : f_X3_planned N (nI home) (nI set) σ = some (if RV A home set home < 1000000 then nI (RV A home set home) else -5, σ) := by
  have hS7 := hA.1.1
  have hr := RV_le hA (home := home) (a := home) hs7
  have hss : set &&& (127 ^^^ set) = 0 := by
    have : ∀ s, s < 128 → s &&& (127 ^^^ s) = 0 := by decide +kernel
    exact this set hs7
  have hv := hT set (Nat.lt_succ_self _) hss home hh
  unfold f_X3_planned
  rw [l_7, pk_mul, nI_add, nI_clamp (by omega), hv]
  refine gd_k (inb_nI (by omega) (by decide)) (nm_k ?_)
  by_cases h : RV A home set home < 1000000
  · rw [if_pos h]
    exact if_F (of_eq_false (ile_F h (by decide))) rfl
  · rw [if_neg h]
    exact if_T (of_eq_true (ile_T (by omega : 1000000 ≤ RV A home set home) (by omega))) rfl
theorem x_fo6 {N : Nat} {A : Ab} {σ : Sg} (hA : AOK A) (hR : CR A σ) {home set part a : Nat} (ha : a < aS A) (hp : part < 128) (hps : part ≤ set) (hs : part &&& (127 ^^^ set) = 0) (hT : TB A home set (set + 1) σ) : ∀ m n J, J + m = aS A → b_X3_firstOf_2 N (n + m + 1) (nI a) (nI part) (nI J) σ = some (if sf (fun j => part.testBit j && decide (vJ A home part a j = RV A home part a)) m J < aS A then nI (sf (fun j => part.testBit j && decide (vJ A home part a j = RV A home part a)) m J) else -1, σ)
  | 0, n, J, hj => by
    have hS7 := hA.1.1
    have e : J = aS A := by omega
    subst e
    show b_X3_firstOf_2b N (b_X3_firstOf_2 N n) _ _ _ _ = some (if aS A < aS A then _ else -1, σ)
    unfold b_X3_firstOf_2b
    rw [hR.1, if_neg (Nat.lt_irrefl _)]
    exact if_T (of_eq_true (ile_T (Nat.le_refl _) (by omega))) rfl
  | m + 1, n, J, hj => by
    have hS7 := hA.1.1
    have hJ : J < aS A := by omega
    have ih := x_fo6 (N := N) hA hR ha hp hps hs hT m n (J + 1) (by omega)
    have hr := RV_le hA (home := home) (a := a) hp
    have e : sf (fun j => part.testBit j && decide (vJ A home part a j = RV A home part a)) (m + 1) J = if (part.testBit J && decide (vJ A home part a J = RV A home part a)) = true then J else sf (fun j => part.testBit j && decide (vJ A home part a j = RV A home part a)) m (J + 1) := rfl
    rw [e]
    show b_X3_firstOf_2b N (b_X3_firstOf_2 N (n + m + 1)) _ _ _ _ = _
    unfold b_X3_firstOf_2b b_X3_firstOf_24 b_X3_firstOf_54
    rw [hR.1, l_31, l_1, bit_1 _ hp J (by omega), nI_add]
    refine if_F (of_eq_false (ile_F hJ (by omega))) ?_
    cases hb : part.testBit J
    · rw [Bool.false_and, if_neg Bool.false_ne_true]
      exact if_F (by decide) (if_T rfl (nm_k ih))
    · obtain ⟨b1, b2, b3⟩ := bit_9 part hp J (by omega) hb
      have b4 := (bit_8 part hp J (by omega)).2
      have hv := hT (part ^^^ 2 ^ J) (by omega) (sub_st hs hb) J hJ
      have hv2 := hT part (by omega) hs a ha
      have hw := wy_le hA a J
      have hr2 := RV_le hA (home := home) (a := J) b4
      refine if_T rfl (if_F n10 (bd2_k (x_rb6 hA hR ha hJ hp hv) ?_))
      rw [l_7, pk_mul, nI_add, nI_clamp (by omega), hv2]
      refine gd_k (inb_nI (by omega) (by decide)) ?_
      by_cases hq : vJ A home part a J = RV A home part a
      · rw [decide_eq_true hq, Bool.true_and, if_pos rfl, if_pos hJ]
        refine if_T ?_ rfl
        have hq' : wy A a J + RV A home (part ^^^ 2 ^ J) J = RV A home part a := hq
        rw [hq']
      · rw [decide_eq_false hq, Bool.and_false, if_neg Bool.false_ne_true]
        have hq' : ¬ wy A a J + RV A home (part ^^^ 2 ^ J) J = RV A home part a := hq
        exact if_F (of_eq_false (ieq_F hq' (by omega) (by omega))) (nm_k ih)
theorem AM_arg {A : Ab} (hA : AOK A) {home part a : Nat} (hp : part < 128) (h0 : ¬ part = 0) (hlt : RV A home part a < 1000000) : (AM A home part a (aS A)).2 < aS A ∧ part.testBit (AM A home part a (aS A)).2 = true ∧ vJ A home part a (AM A home part a (aS A)).2 = RV A home part a ∧ sf (fun j => part.testBit j && decide (vJ A home part a j = RV A home part a)) (aS A) 0 = (AM A home part a (aS A)).2 := by
  have e := RV_s hA.1.1 (home := home) (a := a) hp h0
  have hlt2 := hlt
  rw [e] at hlt2
  obtain ⟨g1, g2, g3, g4⟩ := (amf_P (fun j => part.testBit j) (vJ A home part a) (aS A)).2 hlt2
  have g1' : (AM A home part a (aS A)).2 < aS A := g1
  have g2' : part.testBit (AM A home part a (aS A)).2 = true := g2
  have g3' : vJ A home part a (AM A home part a (aS A)).2 = RV A home part a := by rw [e]; exact g3
  refine ⟨g1', g2', g3', ?_⟩
  refine sf_at (a := (AM A home part a (aS A)).2) ?_ (fun j hj => ?_) _ _ (Nat.zero_le _) (by omega)
  · show (part.testBit (AM A home part a (aS A)).2 && decide (vJ A home part a (AM A home part a (aS A)).2 = RV A home part a)) = true
    rw [g2', g3', decide_eq_true rfl]
    rfl
  · show (part.testBit j && decide (vJ A home part a j = RV A home part a)) = false
    cases hb : part.testBit j
    · rfl
    · have := g4 j hj hb
      have q : ¬ vJ A home part a j = RV A home part a := by
        rw [e]
        have h5 : (AM A home part a (aS A)).1 < vJ A home part a j := this
        omega
      rw [decide_eq_false q]
      rfl
theorem x_inO {N : Nat} {A : Ab} {σ : Sg} (hA : AOK A) (hR : CR A σ) {home set k : Nat} (hk : k ≤ 6) (hT : TB A home set (set + 1) σ) : ∀ m n i part a, i + m = k → a < aS A → part < 128 → part ≤ set → part &&& (127 ^^^ set) = 0 → RV A home part a < 1000000 → b_X3_inOrder_21 (N + 200) (n + m + 2) (nI k) (nI a) (nI part) (nI i) σ = some (oe (OLi A home part a) m, σ) := by
  intro m
  induction m with
  | zero =>
    intro n i part a hi ha hp hps hs hlt
    have hS7 := hA.1.1
    have kf := x_fo6 (N := N + 200) hA hR (home := home) ha hp hps hs hT (aS A) (N + 199 - aS A) 0 (by omega)
    rw [show N + 199 - aS A + aS A + 1 = N + 200 by omega] at kf
    show b_X3_inOrder_21b (N + 200) (b_X3_inOrder_21 (N + 200) (n + 0 + 1)) _ _ _ _ _ = _
    unfold b_X3_inOrder_21b
    refine if_F (of_eq_false (ilt_F (by omega : i ≤ k) (by omega))) (bd2_k (show f_X3_firstOf (N + 200) (nI a) (nI part) σ = _ from kf) ?_)
    by_cases h0 : part = 0
    · subst h0
      have hsf : ∀ m s, sf (fun j => Nat.testBit 0 j && decide (vJ A home 0 a j = RV A home 0 a)) m s = s + m := by
        intro m
        induction m with
        | zero => intro s; rfl
        | succ m ih =>
          intro s
          show (if (Nat.testBit 0 s && decide (vJ A home 0 a s = RV A home 0 a)) = true then s else sf _ m (s + 1)) = _
          rw [Nat.zero_testBit, Bool.false_and, if_neg Bool.false_ne_true, ih]
          omega
      rw [hsf (aS A) 0, if_neg (show ¬ 0 + aS A < aS A by omega)]
      exact if_F (by decide) rfl
    · obtain ⟨g1, g2, g3, g4⟩ := AM_arg hA hp h0 hlt
      rw [g4, if_pos g1, OL_s hS7 hp h0 hlt]
      refine if_T (of_eq_true (ile_T (Nat.zero_le _) (by omega))) (nm_k (nm_k ?_))
      rw [l_1, nI_add]
      show b_X3_inOrder_21b (N + 200) (b_X3_inOrder_21 (N + 200) n) _ _ _ _ _ = _
      unfold b_X3_inOrder_21b
      exact if_T (of_eq_true (ilt_T (by omega : k < i + 1) (by omega))) rfl
  | succ m ih =>
    intro n i part a hi ha hp hps hs hlt
    have hS7 := hA.1.1
    have kf := x_fo6 (N := N + 200) hA hR (home := home) ha hp hps hs hT (aS A) (N + 199 - aS A) 0 (by omega)
    rw [show N + 199 - aS A + aS A + 1 = N + 200 by omega] at kf
    show b_X3_inOrder_21b (N + 200) (b_X3_inOrder_21 (N + 200) (n + m + 2)) _ _ _ _ _ = _
    unfold b_X3_inOrder_21b
    refine if_F (of_eq_false (ilt_F (by omega : i ≤ k) (by omega))) (bd2_k (show f_X3_firstOf (N + 200) (nI a) (nI part) σ = _ from kf) ?_)
    by_cases h0 : part = 0
    · subst h0
      have hsf : ∀ m s, sf (fun j => Nat.testBit 0 j && decide (vJ A home 0 a j = RV A home 0 a)) m s = s + m := by
        intro m
        induction m with
        | zero => intro s; rfl
        | succ m ih =>
          intro s
          show (if (Nat.testBit 0 s && decide (vJ A home 0 a s = RV A home 0 a)) = true then s else sf _ m (s + 1)) = _
          rw [Nat.zero_testBit, Bool.false_and, if_neg Bool.false_ne_true, ih]
          omega
      rw [hsf (aS A) 0, if_neg (show ¬ 0 + aS A < aS A by omega)]
      exact if_F (by decide) rfl
    · obtain ⟨g1, g2, g3, g4⟩ := AM_arg hA hp h0 hlt
      obtain ⟨b1, b2, b3⟩ := bit_9 part hp _ (by omega) g2
      obtain ⟨b5, b4⟩ := bit_8 part hp (AM A home part a (aS A)).2 (by omega)
      have hv : wy A a (AM A home part a (aS A)).2 + RV A home (part ^^^ 2 ^ (AM A home part a (aS A)).2) (AM A home part a (aS A)).2 = RV A home part a := g3
      rw [g4, if_pos g1, OL_s hS7 hp h0 hlt]
      refine if_T (of_eq_true (ile_T (Nat.zero_le _) (by omega))) (nm_k (nm_k ?_))
      rw [l_1, l_31, b5, nI_add]
      refine (ih n (i + 1) _ _ (by omega) g1 b4 (by omega) (sub_st hs g2) (by omega)).trans ?_
      congr 2
      unfold oe
      rw [List.length_cons]
      by_cases hml : m < (OLi A home (part ^^^ 2 ^ (AM A home part a (aS A)).2) (AM A home part a (aS A)).2).length
      · rw [if_pos hml, if_pos (by omega)]
        rfl
      · rw [if_neg hml, if_neg (by omega)]
