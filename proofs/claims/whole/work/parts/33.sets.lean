/-! rows of bits: what is open from a street, its leads -/
def setB (p : Nat → Bool) : Nat → Nat
  | 0 => 0
  | n + 1 => if p n = true then setB p n ||| 2 ^ n else setB p n
theorem setB_lt (p : Nat → Bool) : ∀ n, setB p n < 2 ^ n
  | 0 => by
    show 0 < 2 ^ 0
    decide
  | n + 1 => by
    have h := setB_lt p n
    have h2 : 2 ^ n < 2 ^ (n + 1) := Nat.pow_lt_pow_right (by decide) (by omega)
    show (if p n = true then setB p n ||| 2 ^ n else setB p n) < 2 ^ (n + 1)
    split
    · exact Nat.or_lt_two_pow (by omega) h2
    · omega
theorem setB_bit (p : Nat → Bool) : ∀ n i, (setB p n).testBit i = (decide (i < n) && p i)
  | 0, i => by
    rw [decide_eq_false (Nat.not_lt_zero i)]
    exact Nat.zero_testBit i
  | n + 1, i => by
    have h := setB_bit p n i
    show (if p n = true then setB p n ||| 2 ^ n else setB p n).testBit i = _
    by_cases e : i = n
    · subst e
      rw [decide_eq_true (Nat.lt_succ_self i), Bool.true_and]
      rw [decide_eq_false (Nat.lt_irrefl i), Bool.false_and] at h
      cases hp : p i
      · rw [if_neg Bool.false_ne_true]
        exact h
      · rw [if_pos rfl, Nat.testBit_or, Nat.testBit_two_pow_self, Bool.or_true]
    · have e2 : decide (i < n + 1) = decide (i < n) := by
        by_cases hh : i < n
        · rw [decide_eq_true hh, decide_eq_true (Nat.lt_succ_of_lt hh)]
        · rw [decide_eq_false hh, decide_eq_false (by omega)]
      rw [e2, ← h]
      cases hp : p n
      · rw [if_neg Bool.false_ne_true]
      · rw [if_pos rfl, Nat.testBit_or, Nat.testBit_two_pow_of_ne (by omega), Bool.or_false]
theorem setB_self {l S : Nat} (h : l < 2 ^ S) : setB (fun j => l.testBit j) S = l := by
  apply Nat.eq_of_testBit_eq
  intro i
  rw [setB_bit]
  by_cases hi : i < S
  · rw [decide_eq_true hi, Bool.true_and]
  · rw [decide_eq_false hi, Bool.false_and, Nat.testBit_lt_two_pow (Nat.lt_of_lt_of_le h (Nat.pow_le_pow_right (by decide) (by omega)))]
theorem bit_6 : ∀ n, n < 128 → nI n ||| nI 0 = nI n := by decide +kernel
theorem bit_7 : ∀ j, j < 7 → nI 0 <<< (nI j &&& nI 31) = nI 0 := by decide +kernel
def opS (A : Ab) (a : Nat) : Nat := setB (opB A a) (aS A)
theorem x_from6l {N : Nat} {σ : Sg} {A : Ab} (hA : AOK A) (hC : RC 1 10 3 26 A σ) {a : Nat} (ha : a < aS A) : ∀ m n j, j + m = aS A → b_X4_openFrom_4 (N + 8) (n + m + 1) (nI a) (nI (setB (opB A a) j)) (nI j) σ = some (nI (opS A a), σ)
  | 0, n, j, hj => by
    have hS7 := hA.1.1
    show b_X4_openFrom_4b (N + 8) (b_X4_openFrom_4 (N + 8) n) _ _ _ _ = _
    unfold b_X4_openFrom_4b
    rw [hC.1.1]
    have e : j = aS A := by omega
    subst e
    exact if_T (of_eq_true (ile_T (Nat.le_refl _) (by omega))) rfl
  | m + 1, n, j, hj => by
    have hS7 := hA.1.1
    have ih := x_from6l (N := N) hA hC ha m n (j + 1) (by omega)
    have hs : setB (opB A a) j < 128 := p2_le (by omega : j ≤ 7) (setB_lt _ j)
    show b_X4_openFrom_4b (N + 8) (b_X4_openFrom_4 (N + 8) (n + m + 1)) _ _ _ _ = _
    unfold b_X4_openFrom_4b b_X4_openFrom_27
    rw [hC.1.1]
    refine if_F (of_eq_false (ile_F (by omega) (by omega))) (bd2_k (x_open6 hA hC ha (by omega)) ?_)
    have e : setB (opB A a) (j + 1) = if opB A a j = true then setB (opB A a) j ||| 2 ^ j else setB (opB A a) j := rfl
    rw [e] at ih
    cases hp : opB A a j
    · rw [hp, if_neg Bool.false_ne_true] at ih
      refine if_T rfl ?_
      rw [l_1, nI_add]
      exact ih
    · rw [hp, if_pos rfl] at ih
      refine if_F (by decide) ?_
      rw [l_1, l_31, bit_2 _ hs j (by omega), nI_add]
      exact ih
theorem x_from6 {N : Nat} {σ : Sg} {A : Ab} (hA : AOK A) (hC : RC 1 10 3 26 A σ) {a : Nat} (ha : a < aS A) : f_X4_openFrom (N + 8) (nI a) σ = some (nI (opS A a), σ) := by
  have hS7 := hA.1.1
  have k := x_from6l (N := N) hA hC ha (aS A) (N + 7 - aS A) 0 (by omega)
  rw [show N + 7 - aS A + aS A + 1 = N + 8 by omega] at k
  exact k
theorem x_from7l {N : Nat} {σ : Sg} {A : Ab} (hA : AOK A) (hM : RM 61 A σ) {a : Nat} (ha : a < aS A) : ∀ m n j, j + m = aS A → b_X7_openFrom_4 N (n + m + 1) (nI a) (nI (setB (opB A a) j)) (nI j) σ = some (nI (opS A a), σ)
  | 0, n, j, hj => by
    have hS7 := hA.1.1
    have m1 : ar σ 61 (0 : Int32).toNatClampNeg = nI (aS A) := hM.1.1
    show b_X7_openFrom_4b N (b_X7_openFrom_4 N n) _ _ _ _ = _
    unfold b_X7_openFrom_4b
    rw [m1]
    have e : j = aS A := by omega
    subst e
    exact gd_k rfl (if_T (of_eq_true (ile_T (Nat.le_refl _) (by omega))) rfl)
  | m + 1, n, j, hj => by
    have hS7 := hA.1.1
    have m1 : ar σ 61 (0 : Int32).toNatClampNeg = nI (aS A) := hM.1.1
    have ih := x_from7l (N := N) hA hM ha m n (j + 1) (by omega)
    have hs : setB (opB A a) j < 128 := p2_le (by omega : j ≤ 7) (setB_lt _ j)
    show b_X7_openFrom_4b N (b_X7_openFrom_4 N (n + m + 1)) _ _ _ _ = _
    unfold b_X7_openFrom_4b b_X7_openFrom_31
    rw [m1]
    refine gd_k rfl (if_F (of_eq_false (ile_F (by omega) (by omega))) (bd2_k (x_open7 hA hM ha (by omega)) ?_))
    have e : setB (opB A a) (j + 1) = if opB A a j = true then setB (opB A a) j ||| 2 ^ j else setB (opB A a) j := rfl
    rw [e] at ih
    cases hp : opB A a j
    · rw [hp, if_neg Bool.false_ne_true] at ih
      refine if_T rfl ?_
      rw [l_0, l_1, bit_6 _ hs, nI_add]
      exact ih
    · rw [hp, if_pos rfl] at ih
      refine if_F (by decide) ?_
      rw [l_1, l_31, bit_2 _ hs j (by omega), nI_add]
      exact ih
theorem x_from7 {N : Nat} {σ : Sg} {A : Ab} (hA : AOK A) (hM : RM 61 A σ) {a : Nat} (ha : a < aS A) : f_X7_openFrom (N + 8) (nI a) σ = some (nI (opS A a), σ) := by
  have hS7 := hA.1.1
  have k := x_from7l (N := N + 8) hA hM ha (aS A) (N + 7 - aS A) 0 (by omega)
  rw [show N + 7 - aS A + aS A + 1 = N + 8 by omega] at k
  exact k
theorem x_leads7l {N : Nat} {σ : Sg} {A : Ab} (hA : AOK A) (hM : RM 61 A σ) {a : Nat} (ha : a < aS A) : ∀ m n j, j + m = aS A → b_X7_leadsFrom_4 N (n + m + 1) (nI a) (nI (setB (fun j => (ld A a).testBit j) j)) (nI j) σ = some (nI (ld A a), σ)
  | 0, n, j, hj => by
    have hS7 := hA.1.1
    have m1 : ar σ 61 (0 : Int32).toNatClampNeg = nI (aS A) := hM.1.1
    show b_X7_leadsFrom_4b N (b_X7_leadsFrom_4 N n) _ _ _ _ = _
    unfold b_X7_leadsFrom_4b
    rw [m1]
    have e : j = aS A := by omega
    subst e
    rw [setB_self (hA.2.1 a ha).2.2.2.2.1]
    exact gd_k rfl (if_T (of_eq_true (ile_T (Nat.le_refl _) (by omega))) rfl)
  | m + 1, n, j, hj => by
    have hS7 := hA.1.1
    have m1 : ar σ 61 (0 : Int32).toNatClampNeg = nI (aS A) := hM.1.1
    have ih := x_leads7l (N := N) hA hM ha m n (j + 1) (by omega)
    have hs : setB (fun j => (ld A a).testBit j) j < 128 := p2_le (by omega : j ≤ 7) (setB_lt _ j)
    have d := (hM.2.1 a ha).2.2.2.2 j (by omega)
    show b_X7_leadsFrom_4b N (b_X7_leadsFrom_4 N (n + m + 1)) _ _ _ _ = _
    unfold b_X7_leadsFrom_4b
    rw [m1, l_38, l_7, pk_mul, nI_add, nI_add, nI_clamp (by omega), d]
    refine gd_k rfl (if_F (of_eq_false (ile_F (by omega) (by omega))) (gd_k (inb_nI (by omega) (by decide)) ?_))
    have e : setB (fun j => (ld A a).testBit j) (j + 1) = if (ld A a).testBit j = true then setB (fun j => (ld A a).testBit j) j ||| 2 ^ j else setB (fun j => (ld A a).testBit j) j := rfl
    rw [e] at ih
    cases hp : (ld A a).testBit j
    · rw [hp, if_neg Bool.false_ne_true] at ih
      rw [if_neg Bool.false_ne_true, l_0, l_31, l_1, bit_7 j (by omega), bit_6 _ hs, nI_add]
      exact ih
    · rw [hp, if_pos rfl] at ih
      rw [if_pos rfl, l_1, l_31, bit_2 _ hs j (by omega), nI_add]
      exact ih
theorem x_leads7 {N : Nat} {σ : Sg} {A : Ab} (hA : AOK A) (hM : RM 61 A σ) {a : Nat} (ha : a < aS A) : f_X7_leadsFrom (N + 8) (nI a) σ = some (nI (ld A a), σ) := by
  have hS7 := hA.1.1
  have k := x_leads7l (N := N + 8) hA hM ha (aS A) (N + 7 - aS A) 0 (by omega)
  rw [show N + 7 - aS A + aS A + 1 = N + 8 by omega] at k
  exact k
