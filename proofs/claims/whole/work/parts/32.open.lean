/-! kinds, open leads, leads as bits, how many -/
/-- a kind under another one -/
def und (k c : Nat) : Bool := decide (c = 0 ∨ k = c ∨ (k = 4 ∧ c = 1) ∨ (k = 5 ∧ c = 2) ∨ (k = 6 ∧ c = 3))
theorem x_under6 {N : Nat} {σ : Sg} : ∀ k, k < 7 → ∀ c, c < 7 → f_X6_isUnder (N + 8) (nI k) (nI c) σ = some (if und k c = true then 1 else 0, σ)
  | 0, _, 0, _ => rfl
  | 0, _, 1, _ => rfl
  | 0, _, 2, _ => rfl
  | 0, _, 3, _ => rfl
  | 0, _, 4, _ => rfl
  | 0, _, 5, _ => rfl
  | 0, _, 6, _ => rfl
  | 1, _, 0, _ => rfl
  | 1, _, 1, _ => rfl
  | 1, _, 2, _ => rfl
  | 1, _, 3, _ => rfl
  | 1, _, 4, _ => rfl
  | 1, _, 5, _ => rfl
  | 1, _, 6, _ => rfl
  | 2, _, 0, _ => rfl
  | 2, _, 1, _ => rfl
  | 2, _, 2, _ => rfl
  | 2, _, 3, _ => rfl
  | 2, _, 4, _ => rfl
  | 2, _, 5, _ => rfl
  | 2, _, 6, _ => rfl
  | 3, _, 0, _ => rfl
  | 3, _, 1, _ => rfl
  | 3, _, 2, _ => rfl
  | 3, _, 3, _ => rfl
  | 3, _, 4, _ => rfl
  | 3, _, 5, _ => rfl
  | 3, _, 6, _ => rfl
  | 4, _, 0, _ => rfl
  | 4, _, 1, _ => rfl
  | 4, _, 2, _ => rfl
  | 4, _, 3, _ => rfl
  | 4, _, 4, _ => rfl
  | 4, _, 5, _ => rfl
  | 4, _, 6, _ => rfl
  | 5, _, 0, _ => rfl
  | 5, _, 1, _ => rfl
  | 5, _, 2, _ => rfl
  | 5, _, 3, _ => rfl
  | 5, _, 4, _ => rfl
  | 5, _, 5, _ => rfl
  | 5, _, 6, _ => rfl
  | 6, _, 0, _ => rfl
  | 6, _, 1, _ => rfl
  | 6, _, 2, _ => rfl
  | 6, _, 3, _ => rfl
  | 6, _, 4, _ => rfl
  | 6, _, 5, _ => rfl
  | 6, _, 6, _ => rfl
  | k + 7, h, _, _ => absurd h (by omega)
  | _, _, c + 7, h => absurd h (by omega)
theorem x_under7 {N : Nat} {σ : Sg} : ∀ k, k < 7 → ∀ c, c < 7 → f_X7_isUnder N (nI k) (nI c) σ = some (if und k c = true then 1 else 0, σ)
  | 0, _, 0, _ => rfl
  | 0, _, 1, _ => rfl
  | 0, _, 2, _ => rfl
  | 0, _, 3, _ => rfl
  | 0, _, 4, _ => rfl
  | 0, _, 5, _ => rfl
  | 0, _, 6, _ => rfl
  | 1, _, 0, _ => rfl
  | 1, _, 1, _ => rfl
  | 1, _, 2, _ => rfl
  | 1, _, 3, _ => rfl
  | 1, _, 4, _ => rfl
  | 1, _, 5, _ => rfl
  | 1, _, 6, _ => rfl
  | 2, _, 0, _ => rfl
  | 2, _, 1, _ => rfl
  | 2, _, 2, _ => rfl
  | 2, _, 3, _ => rfl
  | 2, _, 4, _ => rfl
  | 2, _, 5, _ => rfl
  | 2, _, 6, _ => rfl
  | 3, _, 0, _ => rfl
  | 3, _, 1, _ => rfl
  | 3, _, 2, _ => rfl
  | 3, _, 3, _ => rfl
  | 3, _, 4, _ => rfl
  | 3, _, 5, _ => rfl
  | 3, _, 6, _ => rfl
  | 4, _, 0, _ => rfl
  | 4, _, 1, _ => rfl
  | 4, _, 2, _ => rfl
  | 4, _, 3, _ => rfl
  | 4, _, 4, _ => rfl
  | 4, _, 5, _ => rfl
  | 4, _, 6, _ => rfl
  | 5, _, 0, _ => rfl
  | 5, _, 1, _ => rfl
  | 5, _, 2, _ => rfl
  | 5, _, 3, _ => rfl
  | 5, _, 4, _ => rfl
  | 5, _, 5, _ => rfl
  | 5, _, 6, _ => rfl
  | 6, _, 0, _ => rfl
  | 6, _, 1, _ => rfl
  | 6, _, 2, _ => rfl
  | 6, _, 3, _ => rfl
  | 6, _, 4, _ => rfl
  | 6, _, 5, _ => rfl
  | 6, _, 6, _ => rfl
  | k + 7, h, _, _ => absurd h (by omega)
  | _, _, c + 7, h => absurd h (by omega)
def popc (n : Nat) : Nat := ((List.range 7).filter fun j => n.testBit j).length
theorem x_bits {N : Nat} {σ : Sg} {n : Nat} (h : n < 128) : f_J6_bitCount_0f7a4 N (nI n) σ = some (nI (popc n), σ) := by
  have e : ∀ x : Int32, ∃ y : Int32, (∀ (N : Nat) (σ : Sg), f_J6_bitCount_0f7a4 N x σ = some (y, σ)) := fun x => ⟨_, fun N σ => rfl⟩
  have k : ∀ n, n < 128 → (f_J6_bitCount_0f7a4 0 (nI n) am_s0).map (fun q => q.1) = some (nI (popc n)) := by decide +kernel
  obtain ⟨y, hy⟩ := e (nI n)
  have := k n h
  rw [hy] at this
  rw [hy]
  have e2 : y = nI (popc n) := Option.some.inj this
  rw [e2]
theorem x_count1 {N : Nat} {σ : Sg} {n : Nat} (h : n < 128) : f_X7_count1 (N + 8) (nI n) σ = some (nI (popc n), σ) := by
  have e : ∀ x : Int32, ∃ y : Int32, (∀ (N : Nat) (σ : Sg), f_X7_count1 (N + 8) x σ = some (y, σ)) := fun x => ⟨_, fun N σ => rfl⟩
  have k : ∀ n, n < 128 → (f_X7_count1 8 (nI n) am_s0).map (fun q => q.1) = some (nI (popc n)) := by decide +kernel
  obtain ⟨y, hy⟩ := e (nI n)
  have := k n h
  rw [show (8 : Nat) = 0 + 8 from rfl, hy] at this
  rw [hy]
  have e2 : y = nI (popc n) := Option.some.inj this
  rw [e2]
/-- an open lead -/
def opB (A : Ab) (a b : Nat) : Bool := (ld A a).testBit b && !(decide (kd A a = 3 ∨ kd A a = 6) && decide (b < a)) && !(decide (kd A b = 6) && decide (aD A % (vv A b + 2) = 0))
theorem if_bool {c : Prop} [Decidable c] {b : Bool} (h : c ↔ b = false) {α : Type} (x y : α) : (if c then x else y) = if b = true then y else x := by
  cases b
  · rw [if_pos (h.mpr rfl), if_neg Bool.false_ne_true]
  · rw [if_neg (fun q => by cases h.mp q), if_pos rfl]
def shB (A : Ab) (b : Nat) : Bool := decide (kd A b = 6) && decide (aD A % (vv A b + 2) = 0)
theorem opB_e (A : Ab) (a b : Nat) : opB A a b = ((ld A a).testBit b && !(decide (kd A a = 3 ∨ kd A a = 6) && decide (b < a)) && !(shB A b)) := rfl
theorem x_shut6 {N : Nat} {σ : Sg} {A : Ab} (hA : AOK A) (hC : RC 1 10 3 26 A σ) {b : Nat} (hb : b < aS A) : f_X4_isShut N (nI b) σ = some (if shB A b = true then nI 1 else nI 0, σ) := by
  obtain ⟨⟨hS7, hD99, hT100, hW5, hZ7⟩, hAS, -⟩ := hA
  obtain ⟨⟨c1, c2, c3, c4, c5⟩, cS, -⟩ := hC
  obtain ⟨e1, e2, e3, e4, e5⟩ := cS b hb
  obtain ⟨q1, q2, q3, q4, q5, q6⟩ := hAS b hb
  unfold f_X4_isShut b_X4_isShut_37 shB
  refine gd_k (inb_nI (by omega) (by decide)) ?_
  refine nm_k ?_
  refine gd_k (inb_nI (by omega) (by decide)) ?_
  rw [nI_clamp (by omega), e1, e2, c2, l_6, l_2, nI_add, pk_rem (by omega) (by omega) (by omega)]
  by_cases h6 : kd A b = 6
  · refine if_T (by rw [h6]) ?_
    refine if_F (of_eq_false (ile_F (a := vv A b + 2) (b := 0) (by omega) (by omega))) (gd_k ?_ ?_)
    · rw [l_0]
      exact decide_eq_true (of_eq_false (ieq_F (by omega) (by omega) (by decide)))
    · rw [decide_eq_true h6]
      by_cases hr : aD A % (vv A b + 2) = 0
      · rw [hr]
        rfl
      · rw [decide_eq_false hr]
        refine if_F (of_eq_false (ieq_F hr (Nat.lt_of_le_of_lt (Nat.mod_le _ _) (by omega)) (by decide))) rfl
  · rw [decide_eq_false h6]
    exact if_F (of_eq_false (ieq_F h6 (by omega) (by decide))) rfl
theorem x_open6z {N : Nat} {σ : Sg} {A : Ab} (hA : AOK A) (hC : RC 1 10 3 26 A σ) {b : Nat} (hb : b < aS A) : b_X4_isOpen_35 N (nI b) σ = some (if shB A b = true then nI 0 else nI 1, σ) := by
  unfold b_X4_isOpen_35
  refine bd2_k (x_shut6 hA hC hb) ?_
  cases shB A b <;> rfl
theorem x_open6 {N : Nat} {σ : Sg} {A : Ab} (hA : AOK A) (hC : RC 1 10 3 26 A σ) {a b : Nat} (ha : a < aS A) (hb : b < aS A) : f_X4_isOpen (N + 8) (nI a) (nI b) σ = some (if opB A a b = true then nI 1 else nI 0, σ) := by
  have hz : ∀ N, b_X4_isOpen_35 N (nI b) σ = some (if shB A b = true then nI 0 else nI 1, σ) := fun N => x_open6z hA hC hb
  obtain ⟨⟨hS7, hD99, hT100, hW5, hZ7⟩, hAS, -⟩ := hA
  obtain ⟨⟨c1, c2, c3, c4, c5⟩, cS, -⟩ := hC
  obtain ⟨d1, d2, d3, d4, d5⟩ := cS a ha
  obtain ⟨p1, p2, p3, p4, p5, p6⟩ := hAS a ha
  have hn := p2_le hS7 p5
  unfold f_X4_isOpen
  refine gd_k (inb_nI (by omega) (by decide)) ?_
  rw [nI_clamp (by omega), d5, d1, l_31, l_1, bit_1 _ hn b (by omega), opB_e, hz]
  by_cases ht : (ld A a).testBit b = true
  · rw [if_pos ht, ht]
    refine if_F n10 ?_
    by_cases hle : a ≤ b
    · rw [decide_eq_false (show ¬ b < a by omega)]
      refine if_T (of_eq_true (ile_T hle (by omega))) ?_
      rw [Bool.and_false]
      cases shB A b <;> rfl
    · refine if_F (of_eq_false (ile_F (Nat.lt_of_not_le hle) (by omega))) (gd_k (inb_nI (by omega) (by decide)) ?_)
      rw [decide_eq_true (show b < a by omega)]
      refine bd2_k (x_under6 (kd A a) (by omega) 3 (by decide)) ?_
      by_cases hk : kd A a = 3 ∨ kd A a = 6
      · rw [if_pos (show und (kd A a) 3 = true from decide_eq_true (by omega)), decide_eq_true hk]
        exact if_F (by decide) rfl
      · rw [if_neg (show ¬ und (kd A a) 3 = true from fun q => by have := of_decide_eq_true q; omega), decide_eq_false hk]
        refine if_T rfl ?_
        rw [hz]
        cases shB A b <;> rfl
  · rw [if_neg ht]
    refine if_T n00 ?_
    rw [Bool.not_eq_true] at ht
    rw [ht]
    rfl
theorem x_open7b {N : Nat} {σ : Sg} {A : Ab} (hA : AOK A) (hM : RM 61 A σ) {a b : Nat} (ha : a < aS A) (hb : b < aS A) (o s : Bool) : b_X7_isOpen_73 N (nI a) (nI b) (if o = true then nI 1 else nI 0) (if s = true then nI 1 else nI 0) σ = some (if ((ld A a).testBit b && !(o && decide (b < a)) && !s) = true then nI 1 else nI 0, σ) := by
  obtain ⟨⟨hS7, hD99, hT100, hW5, hZ7⟩, hAS, -⟩ := hA
  obtain ⟨⟨m1, m2, m3, m4, m5, m6⟩, mS, -⟩ := hM
  obtain ⟨d1, d2, d3, d4, d5⟩ := mS a ha
  have d5' := d5 b hb
  unfold b_X7_isOpen_73 b_X7_isOpen_102 b_X7_isOpen_111
  rw [l_38, l_7, pk_mul, nI_add, nI_add]
  refine gd_k (inb_nI (by omega) (by decide)) ?_
  rw [nI_clamp (by omega), d5']
  by_cases ht : (ld A a).testBit b = true
  · rw [if_pos ht, ht]
    refine if_T rfl ?_
    by_cases hlt : b < a
    · rw [decide_eq_true hlt]
      cases o
      · cases s <;> rfl
      · exact if_F n10 (if_T (of_eq_true (ilt_T hlt (by omega))) (by cases s <;> rfl))
    · rw [decide_eq_false hlt]
      cases o
      · cases s <;> rfl
      · exact if_F n10 (if_F (of_eq_false (ilt_F (Nat.le_of_not_lt hlt) (by omega))) (by cases s <;> rfl))
  · rw [if_neg ht]
    refine if_F (by decide) ?_
    rw [Bool.not_eq_true] at ht
    rw [ht]
    rfl
theorem x_open7z {N : Nat} {σ : Sg} {A : Ab} (hA : AOK A) (hM : RM 61 A σ) {b : Nat} (hb : b < aS A) (x s0 : Int32) : b_X7_isOpen_32 N x (nI b) s0 σ = b_X7_isOpen_73 N x (nI b) s0 (if shB A b = true then nI 1 else nI 0) σ := by
  obtain ⟨⟨hS7, hD99, hT100, hW5, hZ7⟩, hAS, -⟩ := hA
  obtain ⟨⟨m1, m2, m3, m4, m5, m6⟩, mS, -⟩ := hM
  obtain ⟨e1, e2, e3, e4, e5⟩ := mS b hb
  obtain ⟨q1, q2, q3, q4, q5, q6⟩ := hAS b hb
  unfold b_X7_isOpen_32 b_X7_isOpen_72 shB
  rw [l_10, l_17, nI_add, nI_add]
  refine gd_k (inb_nI (by omega) (by decide)) ?_
  rw [nI_clamp (by omega), nI_clamp (by omega), e1, e2, l_5, nI_clamp (by omega), m2, l_6, l_2, nI_add, pk_rem (by omega) (by omega) (by omega)]
  by_cases h6 : kd A b = 6
  · refine if_T (by rw [h6]) (gd_k (inb_nI (by omega) (by decide)) (gd_k (inb_nI (by omega) (by decide)) (gd_k ?_ ?_)))
    · rw [l_0]
      exact decide_eq_true (of_eq_false (ieq_F (by omega) (by omega) (by decide)))
    · rw [decide_eq_true h6]
      by_cases hr : aD A % (vv A b + 2) = 0
      · rw [hr]
        rfl
      · rw [decide_eq_false hr]
        exact if_F (of_eq_false (ieq_F hr (Nat.lt_of_le_of_lt (Nat.mod_le _ _) (by omega)) (by decide))) rfl
  · rw [decide_eq_false h6]
    exact if_F (of_eq_false (ieq_F h6 (by omega) (by decide))) rfl
theorem x_open7 {N : Nat} {σ : Sg} {A : Ab} (hA : AOK A) (hM : RM 61 A σ) {a b : Nat} (ha : a < aS A) (hb : b < aS A) : f_X7_isOpen N (nI a) (nI b) σ = some (if opB A a b = true then nI 1 else nI 0, σ) := by
  have k1 := @x_open7b N σ A hA hM a b ha hb
  have k2 := fun s0 => @x_open7z N σ A hA hM b hb (nI a) s0
  obtain ⟨⟨hS7, hD99, hT100, hW5, hZ7⟩, hAS, -⟩ := hA
  obtain ⟨⟨m1, m2, m3, m4, m5, m6⟩, mS, -⟩ := hM
  obtain ⟨d1, d2, d3, d4, d5⟩ := mS a ha
  obtain ⟨p1, p2, p3, p4, p5, p6⟩ := hAS a ha
  unfold f_X7_isOpen b_X7_isOpen_27
  rw [l_10, nI_add]
  refine gd_k (inb_nI (by omega) (by decide)) ?_
  rw [nI_clamp (by omega), d1, l_3, l_6, k2, k2, opB_e]
  by_cases h3 : kd A a = 3
  · refine if_T (by rw [h3]) ?_
    rw [decide_eq_true (Or.inl h3)]
    exact k1 true (shB A b)
  · refine if_F (of_eq_false (ieq_F h3 (by omega) (by decide))) (gd_k (inb_nI (by omega) (by decide)) ?_)
    by_cases h6 : kd A a = 6
    · refine if_T (by rw [h6]) ?_
      rw [decide_eq_true (Or.inr h6)]
      exact k1 true (shB A b)
    · refine if_F (of_eq_false (ieq_F h6 (by omega) (by decide))) ?_
      rw [decide_eq_false (show ¬ (kd A a = 3 ∨ kd A a = 6) by omega)]
      exact k1 false (shB A b)
theorem op_as {N : Nat} {σ : Sg} {A : Ab} (hI : Inv A σ) (x y : Int32) : Ok2 (f_X6_as (N + 8) x y) (f_X7_as (N + 8) x y) σ := by
  obtain ⟨⟨hS7, hD99, hT100, hW5, hZ7⟩, hAS, hAT, hAZ, hAW, hAW0⟩ := id hI.1
  obtain ⟨-, hC, hM, hK, r, hr, r1, r2, r3⟩ := id hI
  obtain ⟨⟨c1, c2, c3, c4, c5⟩, cS, cT, cZ, cW⟩ := id hC
  obtain ⟨⟨m1, m2, m3, m4, m5, m6⟩, mS, mT, mZ, mW⟩ := id hM
  unfold f_X6_as f_X7_as
  rcases i_cases x with h | ⟨a, ha, rfl⟩
  · exact ⟨-1, σ, σ, A, bd2_k (x_has_lo h) (if_T n00 rfl), bd2_k (x_isS_lo h) (if_T n00 rfl), hI⟩
  by_cases haS : aS A ≤ a
  · exact ⟨-1, σ, σ, A, bd2_k (x_has_F c1 hS7 haS ha) (if_T n00 rfl), bd2_k (x_isS_F m1 hS7 haS ha) (if_T n00 rfl), hI⟩
  have haS' : a < aS A := by omega
  rcases i_cases y with h | ⟨c, hc, rfl⟩
  · exact ⟨-1, σ, σ, A, bd2_k (x_has_T c1 hS7 haS') (if_F n10 (if_T h rfl)), bd2_k (x_isS_T m1 hS7 haS') (if_F n10 (bd2_k (x_in_lo h (by decide) _) (if_T n00 rfl))), hI⟩
  by_cases hc6 : 6 < c
  · exact ⟨-1, σ, σ, A, bd2_k (x_has_T c1 hS7 haS') (if_F n10 (if_F (of_eq_false (ilt_F (Nat.zero_le _) hc)) (if_F (of_eq_false (ilt_F (by omega : 7 ≤ c) hc)) rfl))), bd2_k (x_isS_T m1 hS7 haS') (if_F n10 (bd2_k (x_in_F (Or.inr hc6) hc (by decide) (by decide)) (if_T n00 rfl))), hI⟩
  obtain ⟨d1, d2, d3, d4, d5⟩ := cS a haS'
  obtain ⟨e1, e2, e3, e4, e5⟩ := mS a haS'
  obtain ⟨p1, p2, p3, p4, p5, p6⟩ := hAS a haS'
  have u6 := @x_under6 N σ (kd A a) (by omega) c (by omega)
  have u7 := @x_under7 (N + 8) σ (kd A a) (by omega) c (by omega)
  refine ⟨if und (kd A a) c = true then nI (vv A a) else -6, σ, σ, A, bd2_k (x_has_T c1 hS7 haS') (if_F n10 (if_F (of_eq_false (ilt_F (Nat.zero_le _) hc)) (if_T (of_eq_true (ilt_T (by omega : c < 7) (by decide))) (gd_k (inb_nI (by omega) (by decide)) ?_)))), bd2_k (x_isS_T m1 hS7 haS') (if_F n10 (bd2_k (x_in_T (Nat.zero_le _) (Nat.le_of_not_lt hc6) (by decide)) (if_F n10 ?_))), hI⟩
  · rw [nI_clamp (by omega), d1]
    refine bd2_k u6 ?_
    cases und (kd A a) c
    · exact if_T rfl rfl
    · refine if_F (by decide) (gd_k (inb_nI (by omega) (by decide)) ?_)
      rw [d2]
      rfl
  · rw [l_10, l_17, nI_add, nI_add]
    refine gd_k (inb_nI (by omega) (by decide)) ?_
    rw [nI_clamp (by omega), nI_clamp (by omega), e1]
    refine bd2_k u7 ?_
    cases und (kd A a) c
    · exact if_T rfl rfl
    · refine if_F (by decide) (gd_k (inb_nI (by omega) (by decide)) ?_)
      rw [e2]
      rfl
