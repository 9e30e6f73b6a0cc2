/-! small operations: class and model answer alike -/
theorem i_cases (x : Int32) : x < nI 0 ∨ ∃ n : Nat, n < 2 ^ 31 ∧ x = nI n := by
  by_cases h : x < 0
  · exact Or.inl h
  · exact Or.inr (nI_of h)
theorem i_lo {x : Int32} (h : x < nI 0) : ¬ 0 ≤ x.toInt := by
  have : x.toInt < (nI 0).toInt := Int32.lt_iff_toInt_lt.mp h
  rw [nI_toInt (by decide)] at this
  omega
theorem i_loT {x : Int32} (h : x < nI 0) {n : Nat} (hn : n < 2 ^ 31) : x < nI n ∧ x ≤ nI n ∧ ¬ nI n < x ∧ ¬ nI n ≤ x ∧ ¬ x = nI n ∧ ¬ nI n = x := by
  have h1 := i_lo h
  have h2 := nI_toInt hn
  refine ⟨Int32.lt_iff_toInt_lt.mpr (by omega), Int32.le_iff_toInt_le.mpr (by omega), fun q => ?_, fun q => ?_, fun q => ?_, fun q => ?_⟩
  · have := Int32.lt_iff_toInt_lt.mp q; omega
  · have := Int32.le_iff_toInt_le.mp q; omega
  · rw [q] at h1; omega
  · rw [← q] at h1; omega
theorem x_in_lo {N : Nat} {σ : Sg} {x : Int32} (h : x < nI 0) {a : Nat} (ha : a < 2 ^ 31) (b : Int32) : f_X7_in N x (nI a) b σ = some (0, σ) := by
  unfold f_X7_in b_X7_in_14
  rw [if_pos (i_loT h ha).1]
theorem x_in {N : Nat} {σ : Sg} {n a b : Nat} (hn : n < 2 ^ 31) (ha : a < 2 ^ 31) (hb : b < 2 ^ 31) : f_X7_in N (nI n) (nI a) (nI b) σ = some (if a ≤ n ∧ n ≤ b then 1 else 0, σ) := by
  unfold f_X7_in b_X7_in_14
  by_cases h1 : n < a
  · rw [if_pos ((nI_ltI hn ha).mpr h1), if_neg (by omega)]
  · rw [if_neg (fun q => h1 ((nI_ltI hn ha).mp q))]
    by_cases h2 : b < n
    · rw [if_pos ((nI_ltI hb hn).mpr h2), if_neg (by omega)]
    · rw [if_neg (fun q => h2 ((nI_ltI hb hn).mp q)), if_pos (by omega)]
theorem x_has {N : Nat} {σ : Sg} {S n : Nat} (hS : rg σ 1 0 = nI S) (h7 : S ≤ 7) (hn : n < 2 ^ 31) : f_X4_has N (nI n) σ = some (if n < S then 1 else 0, σ) := by
  unfold f_X4_has b_X4_has_16
  rw [hS]
  by_cases h : n < S
  · simp -underLambda (disch := omega) only [↓nm_eq, gd_t, bd_s, bd2_s, l_0, l_1, l_2, l_3, l_4, l_5, l_6, l_7, l_8, l_9, l_10, l_11, l_12, l_13, l_14, l_15, l_16, l_17, l_18, l_19, l_20, l_21, l_22, l_23, l_24, l_25, l_31, l_32, l_33, l_38, l_40, l_41, l_48, l_51, l_57, l_59, l_60, l_61, l_63, l_87, l_94, l_97, l_99, l_100, l_101, l_102, l_115, l_124, l_127, l_128, l_140, l_201, l_206, l_300, l_906, l_999, l_9999, l_1000000, l_252645135, l_858993459, l_1000000000, l_1431655765, nI_add, pk_mul, nI_clamp, inb_nI, ilt_T, ilt_F, ile_T, ile_F, ieq_T, ieq_F, nbz_0, nbz_1, ↓reduceIte, true_and, and_true, and_self, ite_true, ite_false]
  · simp -underLambda (disch := omega) only [↓nm_eq, gd_t, bd_s, bd2_s, l_0, l_1, l_2, l_3, l_4, l_5, l_6, l_7, l_8, l_9, l_10, l_11, l_12, l_13, l_14, l_15, l_16, l_17, l_18, l_19, l_20, l_21, l_22, l_23, l_24, l_25, l_31, l_32, l_33, l_38, l_40, l_41, l_48, l_51, l_57, l_59, l_60, l_61, l_63, l_87, l_94, l_97, l_99, l_100, l_101, l_102, l_115, l_124, l_127, l_128, l_140, l_201, l_206, l_300, l_906, l_999, l_9999, l_1000000, l_252645135, l_858993459, l_1000000000, l_1431655765, nI_add, pk_mul, nI_clamp, inb_nI, ilt_T, ilt_F, ile_T, ile_F, ieq_T, ieq_F, nbz_0, nbz_1, ↓reduceIte, true_and, and_true, and_self, ite_true, ite_false]
theorem x_has_lo {N : Nat} {σ : Sg} {x : Int32} (h : x < nI 0) : f_X4_has N x σ = some (0, σ) := by
  unfold f_X4_has b_X4_has_16
  rw [if_pos (show x < 0 from h)]
theorem x_isS {N : Nat} {σ : Sg} {S n : Nat} (hS : ar σ 61 0 = nI S) (h7 : S ≤ 7) (hn : n < 2 ^ 31) : f_X7_isStreet N (nI n) σ = some (if n < S then 1 else 0, σ) := by
  unfold f_X7_isStreet
  simp -underLambda (disch := omega) only [↓nm_eq, gd_t, bd_s, bd2_s, l_0, l_1, l_2, l_3, l_4, l_5, l_6, l_7, l_8, l_9, l_10, l_11, l_12, l_13, l_14, l_15, l_16, l_17, l_18, l_19, l_20, l_21, l_22, l_23, l_24, l_25, l_31, l_32, l_33, l_38, l_40, l_41, l_48, l_51, l_57, l_59, l_60, l_61, l_63, l_87, l_94, l_97, l_99, l_100, l_101, l_102, l_115, l_124, l_127, l_128, l_140, l_201, l_206, l_300, l_906, l_999, l_9999, l_1000000, l_252645135, l_858993459, l_1000000000, l_1431655765, nI_add, pk_mul, nI_clamp, inb_nI, ilt_T, ilt_F, ile_T, ile_F, ieq_T, ieq_F, nbz_0, nbz_1, ↓reduceIte, true_and, and_true, and_self, ite_true, ite_false, hS]
  by_cases h0 : S = 0
  · subst h0
    unfold f_X7_in b_X7_in_14
    have e : (nI 0 - nI 1 : Int32) = -1 := by decide
    rw [e]
    rw [if_neg (fun q => by have := (nI_ltI hn (by decide)).mp q; omega), if_pos (by rw [Int32.lt_iff_toInt_lt, nI_toInt hn]; show (-1 : Int) < _; omega), if_neg (by omega)]
    simp -underLambda (disch := omega) only [↓nm_eq, gd_t, bd_s, bd2_s, l_0, l_1, l_2, l_3, l_4, l_5, l_6, l_7, l_8, l_9, l_10, l_11, l_12, l_13, l_14, l_15, l_16, l_17, l_18, l_19, l_20, l_21, l_22, l_23, l_24, l_25, l_31, l_32, l_33, l_38, l_40, l_41, l_48, l_51, l_57, l_59, l_60, l_61, l_63, l_87, l_94, l_97, l_99, l_100, l_101, l_102, l_115, l_124, l_127, l_128, l_140, l_201, l_206, l_300, l_906, l_999, l_9999, l_1000000, l_252645135, l_858993459, l_1000000000, l_1431655765, nI_add, pk_mul, nI_clamp, inb_nI, ilt_T, ilt_F, ile_T, ile_F, ieq_T, ieq_F, nbz_0, nbz_1, ↓reduceIte, true_and, and_true, and_self, ite_true, ite_false]
  · rw [pk_sub (by omega), x_in hn (by omega) (by omega)]
    by_cases h : n < S
    · simp -underLambda (disch := omega) only [↓nm_eq, gd_t, bd_s, bd2_s, l_0, l_1, l_2, l_3, l_4, l_5, l_6, l_7, l_8, l_9, l_10, l_11, l_12, l_13, l_14, l_15, l_16, l_17, l_18, l_19, l_20, l_21, l_22, l_23, l_24, l_25, l_31, l_32, l_33, l_38, l_40, l_41, l_48, l_51, l_57, l_59, l_60, l_61, l_63, l_87, l_94, l_97, l_99, l_100, l_101, l_102, l_115, l_124, l_127, l_128, l_140, l_201, l_206, l_300, l_906, l_999, l_9999, l_1000000, l_252645135, l_858993459, l_1000000000, l_1431655765, nI_add, pk_mul, nI_clamp, inb_nI, ilt_T, ilt_F, ile_T, ile_F, ieq_T, ieq_F, nbz_0, nbz_1, ↓reduceIte, true_and, and_true, and_self, ite_true, ite_false]
    · simp -underLambda (disch := omega) only [↓nm_eq, gd_t, bd_s, bd2_s, l_0, l_1, l_2, l_3, l_4, l_5, l_6, l_7, l_8, l_9, l_10, l_11, l_12, l_13, l_14, l_15, l_16, l_17, l_18, l_19, l_20, l_21, l_22, l_23, l_24, l_25, l_31, l_32, l_33, l_38, l_40, l_41, l_48, l_51, l_57, l_59, l_60, l_61, l_63, l_87, l_94, l_97, l_99, l_100, l_101, l_102, l_115, l_124, l_127, l_128, l_140, l_201, l_206, l_300, l_906, l_999, l_9999, l_1000000, l_252645135, l_858993459, l_1000000000, l_1431655765, nI_add, pk_mul, nI_clamp, inb_nI, ilt_T, ilt_F, ile_T, ile_F, ieq_T, ieq_F, nbz_0, nbz_1, ↓reduceIte, true_and, and_true, and_self, ite_true, ite_false]
theorem x_isS_lo {N : Nat} {σ : Sg} {x : Int32} (h : x < nI 0) : f_X7_isStreet N x σ = some (0, σ) := by
  unfold f_X7_isStreet
  simp -underLambda (disch := omega) only [↓nm_eq, gd_t, bd_s, bd2_s, l_0, l_1, l_2, l_3, l_4, l_5, l_6, l_7, l_8, l_9, l_10, l_11, l_12, l_13, l_14, l_15, l_16, l_17, l_18, l_19, l_20, l_21, l_22, l_23, l_24, l_25, l_31, l_32, l_33, l_38, l_40, l_41, l_48, l_51, l_57, l_59, l_60, l_61, l_63, l_87, l_94, l_97, l_99, l_100, l_101, l_102, l_115, l_124, l_127, l_128, l_140, l_201, l_206, l_300, l_906, l_999, l_9999, l_1000000, l_252645135, l_858993459, l_1000000000, l_1431655765, nI_add, pk_mul, nI_clamp, inb_nI, ilt_T, ilt_F, ile_T, ile_F, ieq_T, ieq_F, nbz_0, nbz_1, ↓reduceIte, true_and, and_true, and_self, ite_true, ite_false, x_in_lo h]
/-- class and model answer alike, and stand for the same behind it -/
def Ok2 (fx fm : Sg → Option (Int32 × Sg)) (σ : Sg) : Prop := ∃ (r : Int32) (σ1 σ2 : Sg) (A : Ab), fx σ = some (r, σ1) ∧ fm σ1 = some (r, σ2) ∧ Inv A σ2
def Okl (fx fm : Sg → Option (Int64 × Sg)) (σ : Sg) : Prop := ∃ (r : Int64) (σ1 σ2 : Sg) (A : Ab), fx σ = some (r, σ1) ∧ fm σ1 = some (r, σ2) ∧ Inv A σ2
theorem Ok2.q {fx fm : Sg → Option (Int32 × Sg)} {σ : Sg} {A : Ab} {v : Int32} (hI : Inv A σ) (h1 : Ev (fx σ) v σ) (h2 : ∀ σ', Inv A σ' → Ev (fm σ') v σ') : Ok2 fx fm σ := by
  obtain ⟨σ1, e1, m1⟩ := h1
  obtain ⟨σ2, e2, m2⟩ := h2 σ1 (hI.sm m1)
  exact ⟨v, σ1, σ2, A, e1, e2, (hI.sm m1).sm m2⟩
theorem Ev.mk {o : Option (Int32 × Sg)} {v : Int32} {σ : Sg} (h : o = some (v, σ)) : Ev o v σ := ⟨σ, h, Sm.rf σ⟩
/-- what an operation on the state that is now leaves alone: the image, the trace -/
def kA (k : Nat) : Bool := decide ((18 ≤ k ∧ k ≤ 25) ∨ (31 ≤ k ∧ k ≤ 34) ∨ k = 59 ∨ k = 62 ∨ k = 82)
def kR (k j : Nat) : Bool := decide (k = 2 ∨ k = 4 ∨ (k = 0 ∧ j = 2) ∨ (k = 9 ∧ j = 0) ∨ (k = 60 ∧ (j = 3 ∨ j = 34)))
def Sk (σ σ' : Sg) : Prop := (∀ k j, kR k j = true → rg σ' k j = rg σ k j) ∧ ∀ k, kA k = true → ar σ' k = ar σ k
theorem Sk.rf (σ : Sg) : Sk σ σ := ⟨fun _ _ _ => rfl, fun _ _ => rfl⟩
theorem Sk.srg {a b : Sg} (h : Sk a b) {k j : Nat} (v : Int32) (hc : kR k j = false) : Sk a (srg b k j v) := by
  refine ⟨fun x y e => ?_, h.2⟩
  rw [rg_srg, if_neg (by rintro ⟨rfl, rfl⟩; rw [hc] at e; cases e)]
  exact h.1 x y e
theorem Sk.sar {a b : Sg} (h : Sk a b) {k : Nat} (j : Nat) (v : Int32) (hc : kA k = false) : Sk a (sar b k j v) := by
  refine ⟨h.1, fun x e => ?_⟩
  rw [← h.2 x e]
  funext y
  rw [ar_sar, if_neg (by rintro ⟨rfl, rfl⟩; rw [hc] at e; cases e)]
theorem Sk.srow {a b : Sg} (h : Sk a b) {k : Nat} (g : Nat → Int32) (hc : kA k = false) : Sk a (srow b k g) := by
  refine ⟨h.1, fun x e => ?_⟩
  rw [← h.2 x e]
  funext y
  rw [ar_srow, if_neg (by rintro rfl; rw [hc] at e; cases e)]
theorem Sk.tr {a b c : Sg} (h : Sk a b) (g : Sk b c) : Sk a c := ⟨fun k j e => (g.1 k j e).trans (h.1 k j e), fun k e => (g.2 k e).trans (h.2 k e)⟩
theorem Sm.sk {a b : Sg} (h : Sm a b) : Sk a b := ⟨fun k j e => h.1 k j (by unfold kR at e; unfold cR; have := of_decide_eq_true e; exact decide_eq_true (by omega)), fun k e => h.2 k (by unfold kA at e; unfold cA; have := of_decide_eq_true e; exact decide_eq_true (by omega))⟩
theorem Inv.upd {A A' : Ab} {σ σ' : Sg} (hI : Inv A σ) (hA : AOK A') (hC : RC 1 10 3 26 A' σ') (hM : RM 61 A' σ') (hk : Sk σ σ') : Inv A' σ' := by
  obtain ⟨-, -, -, h4, r, h5, h6, h7, h8⟩ := hI
  refine ⟨hA, hC, hM, ?_, r, h5, (hk.1 9 0 (by decide)).trans h6, (hk.1 60 34 (by decide)).trans h7, fun i a b => ?_⟩
  · rw [hk.1 0 2 (by decide), hk.1 60 3 (by decide)]
    rcases h4 with h4 | ⟨a, b, B, c, d, e⟩
    · exact Or.inl h4
    · refine Or.inr ⟨a, b, B, c, d.same (fun j => hk.1 2 j (by unfold kR; exact decide_eq_true (by omega))) (fun k h => hk.2 _ (by unfold kA; exact decide_eq_true (by omega))) (fun j => hk.1 4 j (by unfold kR; exact decide_eq_true (by omega))) (fun k h => hk.2 _ (by unfold kA; exact decide_eq_true (by omega))), e.same (hk.2 _ (by decide))⟩
  · rw [hk.2 59 (by decide), hk.2 82 (by decide)]
    exact h8 i a b
theorem op_count {N : Nat} {σ : Sg} {A : Ab} (hI : Inv A σ) (x : Int32) : Ok2 (f_X6_count N x) (f_X7_count N x) σ := by
  obtain ⟨⟨hS7, hD99, hT100, hW5, hZ7⟩, hAS, hAT, hAZ, hAW, hAW0⟩ := id hI.1
  obtain ⟨-, hC, hM, hK, r, hr, r1, r2, r3⟩ := id hI
  obtain ⟨⟨c1, c2, c3, c4, c5⟩, cS, cT, cZ, cW⟩ := id hC
  obtain ⟨⟨m1, m2, m3, m4, m5, m6⟩, mS, mT, mZ, mW⟩ := id hM
  refine ⟨if x = 0 then nI (aS A) else if x = 1 then nI (aW A) else if x = 2 then nI (aZ A) else if x = 3 then nI (aT A) else if x = 4 then nI r else -1, σ, σ, A, ?_, ?_, hI⟩
  · unfold f_X6_count
    rw [c1, c3, c4, c5, r1]
    (repeat' split) <;> rfl
  · unfold f_X7_count
    simp -underLambda (disch := omega) only [↓nm_eq, gd_t, bd_s, bd2_s, l_0, l_1, l_2, l_3, l_4, l_5, l_6, l_7, l_8, l_9, l_10, l_11, l_12, l_13, l_14, l_15, l_16, l_17, l_18, l_19, l_20, l_21, l_22, l_23, l_24, l_25, l_31, l_32, l_33, l_38, l_40, l_41, l_48, l_51, l_57, l_59, l_60, l_61, l_63, l_87, l_94, l_97, l_99, l_100, l_101, l_102, l_115, l_124, l_127, l_128, l_140, l_201, l_206, l_300, l_906, l_999, l_9999, l_1000000, l_252645135, l_858993459, l_1000000000, l_1431655765, nI_add, pk_mul, nI_clamp, inb_nI, ilt_T, ilt_F, ile_T, ile_F, ieq_T, ieq_F, nbz_0, nbz_1, ↓reduceIte, true_and, and_true, and_self, ite_true, ite_false, m1, m3, m4, m5, r2]
    by_cases h0 : x = nI 0
    · simp only [if_pos h0]
    by_cases h1 : x = nI 1
    · simp only [if_neg h0, if_pos h1]
    by_cases h2 : x = nI 2
    · simp only [if_neg h0, if_neg h1, if_pos h2]
    by_cases h3 : x = nI 3
    · simp only [if_neg h0, if_neg h1, if_neg h2, if_pos h3]
    by_cases h4 : x = nI 4
    · simp only [if_neg h0, if_neg h1, if_neg h2, if_neg h3, if_pos h4]
    · simp only [if_neg h0, if_neg h1, if_neg h2, if_neg h3, if_neg h4]
theorem op_day {N : Nat} {σ : Sg} {A : Ab} (hI : Inv A σ) (x : Int32) : Ok2 (f_X6_day N x) (f_X7_day N x) σ := by
  obtain ⟨⟨hS7, hD99, hT100, hW5, hZ7⟩, hAS, hAT, hAZ, hAW, hAW0⟩ := id hI.1
  obtain ⟨-, hC, hM, hK, r, hr, r1, r2, r3⟩ := id hI
  obtain ⟨⟨c1, c2, c3, c4, c5⟩, cS, cT, cZ, cW⟩ := id hC
  obtain ⟨⟨m1, m2, m3, m4, m5, m6⟩, mS, mT, mZ, mW⟩ := id hM
  unfold f_X6_day f_X7_day
  rcases i_cases x with h | ⟨n, hn, rfl⟩
  · refine ⟨-2, σ, σ, A, ?_, ?_, hI⟩
    · dsimp only
      rw [if_pos (show x < 0 from h)]
    · simp -underLambda (disch := omega) only [↓nm_eq, gd_t, bd_s, bd2_s, l_0, l_1, l_2, l_3, l_4, l_5, l_6, l_7, l_8, l_9, l_10, l_11, l_12, l_13, l_14, l_15, l_16, l_17, l_18, l_19, l_20, l_21, l_22, l_23, l_24, l_25, l_31, l_32, l_33, l_38, l_40, l_41, l_48, l_51, l_57, l_59, l_60, l_61, l_63, l_87, l_94, l_97, l_99, l_100, l_101, l_102, l_115, l_124, l_127, l_128, l_140, l_201, l_206, l_300, l_906, l_999, l_9999, l_1000000, l_252645135, l_858993459, l_1000000000, l_1431655765, nI_add, pk_mul, nI_clamp, inb_nI, ilt_T, ilt_F, ile_T, ile_F, ieq_T, ieq_F, nbz_0, nbz_1, ↓reduceIte, true_and, and_true, and_self, ite_true, ite_false, x_in_lo h]
  · by_cases h99 : n ≤ 99
    · refine ⟨nI (aD A), srg σ 1 6 (nI n), sar (srg σ 1 6 (nI n)) 61 5 (nI n), ((aS A, n, aT A, aW A, aZ A), A.2), ?_, ?_, ?_⟩
      · simp -underLambda (disch := omega) only [↓nm_eq, gd_t, bd_s, bd2_s, l_0, l_1, l_2, l_3, l_4, l_5, l_6, l_7, l_8, l_9, l_10, l_11, l_12, l_13, l_14, l_15, l_16, l_17, l_18, l_19, l_20, l_21, l_22, l_23, l_24, l_25, l_31, l_32, l_33, l_38, l_40, l_41, l_48, l_51, l_57, l_59, l_60, l_61, l_63, l_87, l_94, l_97, l_99, l_100, l_101, l_102, l_115, l_124, l_127, l_128, l_140, l_201, l_206, l_300, l_906, l_999, l_9999, l_1000000, l_252645135, l_858993459, l_1000000000, l_1431655765, nI_add, pk_mul, nI_clamp, inb_nI, ilt_T, ilt_F, ile_T, ile_F, ieq_T, ieq_F, nbz_0, nbz_1, ↓reduceIte, true_and, and_true, and_self, ite_true, ite_false, c2]
      · simp -underLambda (disch := omega) only [↓nm_eq, gd_t, bd_s, bd2_s, l_0, l_1, l_2, l_3, l_4, l_5, l_6, l_7, l_8, l_9, l_10, l_11, l_12, l_13, l_14, l_15, l_16, l_17, l_18, l_19, l_20, l_21, l_22, l_23, l_24, l_25, l_31, l_32, l_33, l_38, l_40, l_41, l_48, l_51, l_57, l_59, l_60, l_61, l_63, l_87, l_94, l_97, l_99, l_100, l_101, l_102, l_115, l_124, l_127, l_128, l_140, l_201, l_206, l_300, l_906, l_999, l_9999, l_1000000, l_252645135, l_858993459, l_1000000000, l_1431655765, nI_add, pk_mul, nI_clamp, inb_nI, ilt_T, ilt_F, ile_T, ile_F, ieq_T, ieq_F, nbz_0, nbz_1, ↓reduceIte, true_and, and_true, and_self, ite_true, ite_false, x_in, ar_srg, m2]
      · refine hI.upd ⟨⟨hS7, h99, hT100, hW5, hZ7⟩, hI.1.2⟩ ⟨⟨c1, rfl, c3, c4, c5⟩, cS, cT, cZ, cW.same rfl rfl (fun k hk => ar_sar_ne (by omega))⟩ ?_ (((Sk.rf σ).srg _ rfl).sar _ _ rfl)
        refine ⟨⟨?_, ?_, ?_, ?_, ?_, ?_⟩, fun k hk => ⟨?_, ?_, ?_, ?_, fun j hj => ?_⟩, fun i hi => ?_, fun i hi => ⟨?_, ?_⟩, fun h0 => ⟨?_, fun i hi => ?_⟩⟩
        all_goals simp (disch := omega) only [rg_srg, rg_sar, rg_sal, rg_srow, rg_srowl, ar_srg, ar_sar, ar_sal, ar_srow, ar_srowl, al_srg, al_sar, al_sal, al_srow, al_srowl, true_and, and_true, and_self, ite_true, ite_false, if_pos, if_neg]
        all_goals try (first | exact m1 | exact m2 | exact m3 | exact m4 | exact m5 | exact m6 | exact (mS k hk).1 | exact (mS k hk).2.1 | exact (mS k hk).2.2.1 | exact (mS k hk).2.2.2.1 | exact (mS k hk).2.2.2.2 j hj | exact mT i hi | exact (mZ i hi).1 | exact (mZ i hi).2 | exact (mW h0).1 | exact (mW h0).2 i hi)
        rfl
    · refine ⟨-2, σ, σ, A, ?_, ?_, hI⟩
      · simp -underLambda (disch := omega) only [↓nm_eq, gd_t, bd_s, bd2_s, l_0, l_1, l_2, l_3, l_4, l_5, l_6, l_7, l_8, l_9, l_10, l_11, l_12, l_13, l_14, l_15, l_16, l_17, l_18, l_19, l_20, l_21, l_22, l_23, l_24, l_25, l_31, l_32, l_33, l_38, l_40, l_41, l_48, l_51, l_57, l_59, l_60, l_61, l_63, l_87, l_94, l_97, l_99, l_100, l_101, l_102, l_115, l_124, l_127, l_128, l_140, l_201, l_206, l_300, l_906, l_999, l_9999, l_1000000, l_252645135, l_858993459, l_1000000000, l_1431655765, nI_add, pk_mul, nI_clamp, inb_nI, ilt_T, ilt_F, ile_T, ile_F, ieq_T, ieq_F, nbz_0, nbz_1, ↓reduceIte, true_and, and_true, and_self, ite_true, ite_false]
      · simp -underLambda (disch := omega) only [↓nm_eq, gd_t, bd_s, bd2_s, l_0, l_1, l_2, l_3, l_4, l_5, l_6, l_7, l_8, l_9, l_10, l_11, l_12, l_13, l_14, l_15, l_16, l_17, l_18, l_19, l_20, l_21, l_22, l_23, l_24, l_25, l_31, l_32, l_33, l_38, l_40, l_41, l_48, l_51, l_57, l_59, l_60, l_61, l_63, l_87, l_94, l_97, l_99, l_100, l_101, l_102, l_115, l_124, l_127, l_128, l_140, l_201, l_206, l_300, l_906, l_999, l_9999, l_1000000, l_252645135, l_858993459, l_1000000000, l_1431655765, nI_add, pk_mul, nI_clamp, inb_nI, ilt_T, ilt_F, ile_T, ile_F, ieq_T, ieq_F, nbz_0, nbz_1, ↓reduceIte, true_and, and_true, and_self, ite_true, ite_false, x_in]
theorem op_feed {N : Nat} {σ : Sg} {A : Ab} (hI : Inv A σ) (x : Int32) : Ok2 (f_X6_feed N x) (f_X7_feed N x) σ := by
  obtain ⟨⟨hS7, hD99, hT100, hW5, hZ7⟩, hAS, hAT, hAZ, hAW, hAW0⟩ := id hI.1
  obtain ⟨-, hC, hM, hK, r, hr, r1, r2, r3⟩ := id hI
  obtain ⟨⟨c1, c2, c3, c4, c5⟩, cS, cT, cZ, cW⟩ := id hC
  obtain ⟨⟨m1, m2, m3, m4, m5, m6⟩, mS, mT, mZ, mW⟩ := id hM
  unfold f_X6_feed f_X7_feed
  rcases i_cases x with h | ⟨n, hn, rfl⟩
  · refine ⟨-2, σ, σ, A, ?_, ?_, hI⟩
    · dsimp only
      rw [if_pos (show x < 0 from h)]
    · simp -underLambda (disch := omega) only [↓nm_eq, gd_t, bd_s, bd2_s, l_0, l_1, l_2, l_3, l_4, l_5, l_6, l_7, l_8, l_9, l_10, l_11, l_12, l_13, l_14, l_15, l_16, l_17, l_18, l_19, l_20, l_21, l_22, l_23, l_24, l_25, l_31, l_32, l_33, l_38, l_40, l_41, l_48, l_51, l_57, l_59, l_60, l_61, l_63, l_87, l_94, l_97, l_99, l_100, l_101, l_102, l_115, l_124, l_127, l_128, l_140, l_201, l_206, l_300, l_906, l_999, l_9999, l_1000000, l_252645135, l_858993459, l_1000000000, l_1431655765, nI_add, pk_mul, nI_clamp, inb_nI, ilt_T, ilt_F, ile_T, ile_F, ieq_T, ieq_F, nbz_0, nbz_1, ↓reduceIte, true_and, and_true, and_self, ite_true, ite_false, x_in_lo h]
  · by_cases h99 : n ≤ 127
    · by_cases hT : aT A < 100
      · refine ⟨nI (aT A + 1), srg (sar σ 15 (aT A) (nI n)) 1 7 (nI (aT A + 1)), sar (sar (srg (sar σ 15 (aT A) (nI n)) 1 7 (nI (aT A + 1))) 61 (101 + aT A) (nI n)) 61 3 (nI (aT A + 1)), ((aS A, aD A, aT A + 1, aW A, aZ A), kd A, vv A, ii A, oo A, ld A, (fun i => if i = aT A then n else tp A i), ti A, tu A, tw A), ?_, ?_, ?_⟩
        · simp -underLambda (disch := omega) only [↓nm_eq, gd_t, bd_s, bd2_s, l_0, l_1, l_2, l_3, l_4, l_5, l_6, l_7, l_8, l_9, l_10, l_11, l_12, l_13, l_14, l_15, l_16, l_17, l_18, l_19, l_20, l_21, l_22, l_23, l_24, l_25, l_31, l_32, l_33, l_38, l_40, l_41, l_48, l_51, l_57, l_59, l_60, l_61, l_63, l_87, l_94, l_97, l_99, l_100, l_101, l_102, l_115, l_124, l_127, l_128, l_140, l_201, l_206, l_300, l_906, l_999, l_9999, l_1000000, l_252645135, l_858993459, l_1000000000, l_1431655765, nI_add, pk_mul, nI_clamp, inb_nI, ilt_T, ilt_F, ile_T, ile_F, ieq_T, ieq_F, nbz_0, nbz_1, ↓reduceIte, true_and, and_true, and_self, ite_true, ite_false, c3, rg_srg, rg_sar, true_and, and_self]
        · simp -underLambda (disch := omega) only [↓nm_eq, gd_t, bd_s, bd2_s, l_0, l_1, l_2, l_3, l_4, l_5, l_6, l_7, l_8, l_9, l_10, l_11, l_12, l_13, l_14, l_15, l_16, l_17, l_18, l_19, l_20, l_21, l_22, l_23, l_24, l_25, l_31, l_32, l_33, l_38, l_40, l_41, l_48, l_51, l_57, l_59, l_60, l_61, l_63, l_87, l_94, l_97, l_99, l_100, l_101, l_102, l_115, l_124, l_127, l_128, l_140, l_201, l_206, l_300, l_906, l_999, l_9999, l_1000000, l_252645135, l_858993459, l_1000000000, l_1431655765, nI_add, pk_mul, nI_clamp, inb_nI, ilt_T, ilt_F, ile_T, ile_F, ieq_T, ieq_F, nbz_0, nbz_1, ↓reduceIte, true_and, and_true, and_self, ite_true, ite_false, x_in, ar_srg, ar_sar, m3, true_and, and_self]
        · refine hI.upd ⟨⟨hS7, hD99, by show aT A + 1 ≤ 100; omega, hW5, hZ7⟩, hAS, fun i hi => ?_, hAZ, hAW, hAW0⟩ ⟨⟨c1, c2, rfl, c4, c5⟩, fun k hk => ?_, fun i hi => ?_, fun i hi => ?_, cW.same rfl rfl (fun k hk => ?_)⟩ ?_ (((((Sk.rf σ).sar _ _ rfl).srg _ rfl).sar _ _ rfl).sar _ _ rfl)
          · show (if i = aT A then n else tp A i) < 128
            split
            · omega
            · exact hAT i (by have : i < aT A + 1 := hi; omega)
          · simp (disch := omega) only [rg_srg, rg_sar, rg_sal, rg_srow, rg_srowl, ar_srg, ar_sar, ar_sal, ar_srow, ar_srowl, al_srg, al_sar, al_sal, al_srow, al_srowl, true_and, and_true, and_self, ite_true, ite_false, if_pos, if_neg]
            exact cS k hk
          · have hi' : i < aT A + 1 := hi
            show _ = nI (if i = aT A then n else tp A i)
            by_cases e : i = aT A
            · simp (disch := omega) only [rg_srg, rg_sar, rg_sal, rg_srow, rg_srowl, ar_srg, ar_sar, ar_sal, ar_srow, ar_srowl, al_srg, al_sar, al_sal, al_srow, al_srowl, true_and, and_true, and_self, ite_true, ite_false, if_pos, if_neg]
            · simp (disch := omega) only [rg_srg, rg_sar, rg_sal, rg_srow, rg_srowl, ar_srg, ar_sar, ar_sal, ar_srow, ar_srowl, al_srg, al_sar, al_sal, al_srow, al_srowl, true_and, and_true, and_self, ite_true, ite_false, if_pos, if_neg]
              exact cT i (by omega)
          · simp (disch := omega) only [rg_srg, rg_sar, rg_sal, rg_srow, rg_srowl, ar_srg, ar_sar, ar_sal, ar_srow, ar_srowl, al_srg, al_sar, al_sal, al_srow, al_srowl, true_and, and_true, and_self, ite_true, ite_false, if_pos, if_neg]
            exact cZ i hi
          · rw [ar_sar_ne (by omega), ar_sar_ne (by omega), ar_srg, ar_sar_ne (by omega)]
          · refine ⟨⟨?_, ?_, ?_, ?_, ?_, ?_⟩, fun k hk => ⟨?_, ?_, ?_, ?_, fun j hj => ?_⟩, fun i hi => ?_, fun i hi => ⟨?_, ?_⟩, fun h0 => ⟨?_, fun i hi => ?_⟩⟩
            case refine_8 =>
              have hi' : i < aT A + 1 := hi
              show _ = nI (if i = aT A then n else tp A i)
              by_cases e : i = aT A
              · simp (disch := omega) only [rg_srg, rg_sar, rg_sal, rg_srow, rg_srowl, ar_srg, ar_sar, ar_sal, ar_srow, ar_srowl, al_srg, al_sar, al_sal, al_srow, al_srowl, true_and, and_true, and_self, ite_true, ite_false, if_pos, if_neg]
              · simp (disch := omega) only [rg_srg, rg_sar, rg_sal, rg_srow, rg_srowl, ar_srg, ar_sar, ar_sal, ar_srow, ar_srowl, al_srg, al_sar, al_sal, al_srow, al_srowl, true_and, and_true, and_self, ite_true, ite_false, if_pos, if_neg]
                exact mT i (by omega)
            all_goals try have hk' : k < aS A := hk
            all_goals try have hj' : j < aS A := hj
            all_goals try have hi' : i < aZ A := hi
            all_goals simp (disch := omega) only [rg_srg, rg_sar, rg_sal, rg_srow, rg_srowl, ar_srg, ar_sar, ar_sal, ar_srow, ar_srowl, al_srg, al_sar, al_sal, al_srow, al_srowl, true_and, and_true, and_self, ite_true, ite_false, if_pos, if_neg]
            all_goals try (first | exact m1 | exact m2 | exact m3 | exact m4 | exact m5 | exact m6 | exact (mS k hk).1 | exact (mS k hk).2.1 | exact (mS k hk).2.2.1 | exact (mS k hk).2.2.2.1 | exact (mS k hk).2.2.2.2 j hj | exact mT i hi | exact (mZ i hi).1 | exact (mZ i hi).2 | exact (mW h0).1 | exact (mW h0).2 i hi)
            all_goals sorry
      · refine ⟨-4, σ, σ, A, ?_, ?_, hI⟩
        · simp -underLambda (disch := omega) only [↓nm_eq, gd_t, bd_s, bd2_s, l_0, l_1, l_2, l_3, l_4, l_5, l_6, l_7, l_8, l_9, l_10, l_11, l_12, l_13, l_14, l_15, l_16, l_17, l_18, l_19, l_20, l_21, l_22, l_23, l_24, l_25, l_31, l_32, l_33, l_38, l_40, l_41, l_48, l_51, l_57, l_59, l_60, l_61, l_63, l_87, l_94, l_97, l_99, l_100, l_101, l_102, l_115, l_124, l_127, l_128, l_140, l_201, l_206, l_300, l_906, l_999, l_9999, l_1000000, l_252645135, l_858993459, l_1000000000, l_1431655765, nI_add, pk_mul, nI_clamp, inb_nI, ilt_T, ilt_F, ile_T, ile_F, ieq_T, ieq_F, nbz_0, nbz_1, ↓reduceIte, true_and, and_true, and_self, ite_true, ite_false, c3]
        · simp -underLambda (disch := omega) only [↓nm_eq, gd_t, bd_s, bd2_s, l_0, l_1, l_2, l_3, l_4, l_5, l_6, l_7, l_8, l_9, l_10, l_11, l_12, l_13, l_14, l_15, l_16, l_17, l_18, l_19, l_20, l_21, l_22, l_23, l_24, l_25, l_31, l_32, l_33, l_38, l_40, l_41, l_48, l_51, l_57, l_59, l_60, l_61, l_63, l_87, l_94, l_97, l_99, l_100, l_101, l_102, l_115, l_124, l_127, l_128, l_140, l_201, l_206, l_300, l_906, l_999, l_9999, l_1000000, l_252645135, l_858993459, l_1000000000, l_1431655765, nI_add, pk_mul, nI_clamp, inb_nI, ilt_T, ilt_F, ile_T, ile_F, ieq_T, ieq_F, nbz_0, nbz_1, ↓reduceIte, true_and, and_true, and_self, ite_true, ite_false, x_in, m3]
    · refine ⟨-2, σ, σ, A, ?_, ?_, hI⟩
      · simp -underLambda (disch := omega) only [↓nm_eq, gd_t, bd_s, bd2_s, l_0, l_1, l_2, l_3, l_4, l_5, l_6, l_7, l_8, l_9, l_10, l_11, l_12, l_13, l_14, l_15, l_16, l_17, l_18, l_19, l_20, l_21, l_22, l_23, l_24, l_25, l_31, l_32, l_33, l_38, l_40, l_41, l_48, l_51, l_57, l_59, l_60, l_61, l_63, l_87, l_94, l_97, l_99, l_100, l_101, l_102, l_115, l_124, l_127, l_128, l_140, l_201, l_206, l_300, l_906, l_999, l_9999, l_1000000, l_252645135, l_858993459, l_1000000000, l_1431655765, nI_add, pk_mul, nI_clamp, inb_nI, ilt_T, ilt_F, ile_T, ile_F, ieq_T, ieq_F, nbz_0, nbz_1, ↓reduceIte, true_and, and_true, and_self, ite_true, ite_false]
      · simp -underLambda (disch := omega) only [↓nm_eq, gd_t, bd_s, bd2_s, l_0, l_1, l_2, l_3, l_4, l_5, l_6, l_7, l_8, l_9, l_10, l_11, l_12, l_13, l_14, l_15, l_16, l_17, l_18, l_19, l_20, l_21, l_22, l_23, l_24, l_25, l_31, l_32, l_33, l_38, l_40, l_41, l_48, l_51, l_57, l_59, l_60, l_61, l_63, l_87, l_94, l_97, l_99, l_100, l_101, l_102, l_115, l_124, l_127, l_128, l_140, l_201, l_206, l_300, l_906, l_999, l_9999, l_1000000, l_252645135, l_858993459, l_1000000000, l_1431655765, nI_add, pk_mul, nI_clamp, inb_nI, ilt_T, ilt_F, ile_T, ile_F, ieq_T, ieq_F, nbz_0, nbz_1, ↓reduceIte, true_and, and_true, and_self, ite_true, ite_false, x_in]
theorem bit_1 : ∀ n, n < 128 → ∀ j, j < 7 → (nI n >>> (nI j &&& nI 31)) &&& nI 1 = if n.testBit j then nI 1 else nI 0 := by decide +kernel
theorem bit_2 : ∀ n, n < 128 → ∀ j, j < 7 → nI n ||| (nI 1 <<< (nI j &&& nI 31)) = nI (n ||| 2 ^ j) := by decide +kernel
theorem bit_3 : ∀ n, n < 128 → ∀ j, j < 7 → nI n &&& ((nI 1 <<< (nI j &&& nI 31)) ^^^ -nI 1) = nI (n &&& (127 ^^^ 2 ^ j)) := by decide +kernel
theorem bit_4 : ∀ n, n < 128 → ∀ j, j < 7 → ∀ i, i < 7 → (n ||| 2 ^ j).testBit i = (n.testBit i || decide (i = j)) := by decide +kernel
theorem bit_5 : ∀ n, n < 128 → ∀ j, j < 7 → ∀ i, i < 7 → (n &&& (127 ^^^ 2 ^ j)).testBit i = (n.testBit i && !decide (i = j)) := by decide +kernel
theorem p2_le {S n : Nat} (hS : S ≤ 7) (h : n < 2 ^ S) : n < 128 := Nat.lt_of_lt_of_le h (Nat.pow_le_pow_right (by decide) hS)
theorem op_tally {N : Nat} {σ : Sg} {A : Ab} (hI : Inv A σ) (x y z : Int32) : Ok2 (f_X6_tally N x y z) (f_X7_tally N x y z) σ := by
  obtain ⟨⟨hS7, hD99, hT100, hW5, hZ7⟩, hAS, hAT, hAZ, hAW, hAW0⟩ := id hI.1
  obtain ⟨-, hC, hM, hK, r, hr, r1, r2, r3⟩ := id hI
  obtain ⟨⟨c1, c2, c3, c4, c5⟩, cS, cT, cZ, cW⟩ := id hC
  obtain ⟨⟨m1, m2, m3, m4, m5, m6⟩, mS, mT, mZ, mW⟩ := id hM
  unfold f_X6_tally f_X7_tally b_X6_tally_57 b_X6_tally_57_1 b_X7_tally_44
  have no : ∀ v : Int32, (f_X6_tally N x y z σ = some (v, σ)) → (f_X7_tally N x y z σ = some (v, σ)) → Ok2 (f_X6_tally N x y z) (f_X7_tally N x y z) σ := fun v h1 h2 => ⟨v, σ, σ, A, h1, h2, hI⟩
  unfold f_X6_tally f_X7_tally b_X6_tally_57 b_X6_tally_57_1 b_X7_tally_44 at no
  rcases i_cases x with h | ⟨k, hk, rfl⟩
  · refine no (-1) ?_ ?_
    · simp -underLambda (disch := omega) only [↓nm_eq, gd_t, bd_s, bd2_s, l_0, l_1, l_2, l_3, l_4, l_5, l_6, l_7, l_8, l_9, l_10, l_11, l_12, l_13, l_14, l_15, l_16, l_17, l_18, l_19, l_20, l_21, l_22, l_23, l_24, l_25, l_31, l_32, l_33, l_38, l_40, l_41, l_48, l_51, l_57, l_59, l_60, l_61, l_63, l_87, l_94, l_97, l_99, l_100, l_101, l_102, l_115, l_124, l_127, l_128, l_140, l_201, l_206, l_300, l_906, l_999, l_9999, l_1000000, l_252645135, l_858993459, l_1000000000, l_1431655765, nI_add, pk_mul, nI_clamp, inb_nI, ilt_T, ilt_F, ile_T, ile_F, ieq_T, ieq_F, nbz_0, nbz_1, ↓reduceIte, true_and, and_true, and_self, ite_true, ite_false, x_has_lo h]
    · simp -underLambda (disch := omega) only [↓nm_eq, gd_t, bd_s, bd2_s, l_0, l_1, l_2, l_3, l_4, l_5, l_6, l_7, l_8, l_9, l_10, l_11, l_12, l_13, l_14, l_15, l_16, l_17, l_18, l_19, l_20, l_21, l_22, l_23, l_24, l_25, l_31, l_32, l_33, l_38, l_40, l_41, l_48, l_51, l_57, l_59, l_60, l_61, l_63, l_87, l_94, l_97, l_99, l_100, l_101, l_102, l_115, l_124, l_127, l_128, l_140, l_201, l_206, l_300, l_906, l_999, l_9999, l_1000000, l_252645135, l_858993459, l_1000000000, l_1431655765, nI_add, pk_mul, nI_clamp, inb_nI, ilt_T, ilt_F, ile_T, ile_F, ieq_T, ieq_F, nbz_0, nbz_1, ↓reduceIte, true_and, and_true, and_self, ite_true, ite_false, x_isS_lo h]
  by_cases hkS : aS A ≤ k
  · refine no (-1) ?_ ?_
    · simp -underLambda (disch := omega) only [↓nm_eq, gd_t, bd_s, bd2_s, l_0, l_1, l_2, l_3, l_4, l_5, l_6, l_7, l_8, l_9, l_10, l_11, l_12, l_13, l_14, l_15, l_16, l_17, l_18, l_19, l_20, l_21, l_22, l_23, l_24, l_25, l_31, l_32, l_33, l_38, l_40, l_41, l_48, l_51, l_57, l_59, l_60, l_61, l_63, l_87, l_94, l_97, l_99, l_100, l_101, l_102, l_115, l_124, l_127, l_128, l_140, l_201, l_206, l_300, l_906, l_999, l_9999, l_1000000, l_252645135, l_858993459, l_1000000000, l_1431655765, nI_add, pk_mul, nI_clamp, inb_nI, ilt_T, ilt_F, ile_T, ile_F, ieq_T, ieq_F, nbz_0, nbz_1, ↓reduceIte, true_and, and_true, and_self, ite_true, ite_false, x_has c1 hS7 hk]
    · simp -underLambda (disch := omega) only [↓nm_eq, gd_t, bd_s, bd2_s, l_0, l_1, l_2, l_3, l_4, l_5, l_6, l_7, l_8, l_9, l_10, l_11, l_12, l_13, l_14, l_15, l_16, l_17, l_18, l_19, l_20, l_21, l_22, l_23, l_24, l_25, l_31, l_32, l_33, l_38, l_40, l_41, l_48, l_51, l_57, l_59, l_60, l_61, l_63, l_87, l_94, l_97, l_99, l_100, l_101, l_102, l_115, l_124, l_127, l_128, l_140, l_201, l_206, l_300, l_906, l_999, l_9999, l_1000000, l_252645135, l_858993459, l_1000000000, l_1431655765, nI_add, pk_mul, nI_clamp, inb_nI, ilt_T, ilt_F, ile_T, ile_F, ieq_T, ieq_F, nbz_0, nbz_1, ↓reduceIte, true_and, and_true, and_self, ite_true, ite_false, x_isS m1 hS7 hk]
  rcases i_cases y with h | ⟨w, hw, rfl⟩
  · refine no (-1) ?_ ?_
    · simp -underLambda (disch := omega) only [↓nm_eq, gd_t, bd_s, bd2_s, l_0, l_1, l_2, l_3, l_4, l_5, l_6, l_7, l_8, l_9, l_10, l_11, l_12, l_13, l_14, l_15, l_16, l_17, l_18, l_19, l_20, l_21, l_22, l_23, l_24, l_25, l_31, l_32, l_33, l_38, l_40, l_41, l_48, l_51, l_57, l_59, l_60, l_61, l_63, l_87, l_94, l_97, l_99, l_100, l_101, l_102, l_115, l_124, l_127, l_128, l_140, l_201, l_206, l_300, l_906, l_999, l_9999, l_1000000, l_252645135, l_858993459, l_1000000000, l_1431655765, nI_add, pk_mul, nI_clamp, inb_nI, ilt_T, ilt_F, ile_T, ile_F, ieq_T, ieq_F, nbz_0, nbz_1, ↓reduceIte, true_and, and_true, and_self, ite_true, ite_false, x_has c1 hS7 hk]
      rw [if_pos h]
    · simp -underLambda (disch := omega) only [↓nm_eq, gd_t, bd_s, bd2_s, l_0, l_1, l_2, l_3, l_4, l_5, l_6, l_7, l_8, l_9, l_10, l_11, l_12, l_13, l_14, l_15, l_16, l_17, l_18, l_19, l_20, l_21, l_22, l_23, l_24, l_25, l_31, l_32, l_33, l_38, l_40, l_41, l_48, l_51, l_57, l_59, l_60, l_61, l_63, l_87, l_94, l_97, l_99, l_100, l_101, l_102, l_115, l_124, l_127, l_128, l_140, l_201, l_206, l_300, l_906, l_999, l_9999, l_1000000, l_252645135, l_858993459, l_1000000000, l_1431655765, nI_add, pk_mul, nI_clamp, inb_nI, ilt_T, ilt_F, ile_T, ile_F, ieq_T, ieq_F, nbz_0, nbz_1, ↓reduceIte, true_and, and_true, and_self, ite_true, ite_false, x_isS m1 hS7 hk, x_in_lo h]
  by_cases hw1 : 1 < w
  · refine no (-1) ?_ ?_
    · simp -underLambda (disch := omega) only [↓nm_eq, gd_t, bd_s, bd2_s, l_0, l_1, l_2, l_3, l_4, l_5, l_6, l_7, l_8, l_9, l_10, l_11, l_12, l_13, l_14, l_15, l_16, l_17, l_18, l_19, l_20, l_21, l_22, l_23, l_24, l_25, l_31, l_32, l_33, l_38, l_40, l_41, l_48, l_51, l_57, l_59, l_60, l_61, l_63, l_87, l_94, l_97, l_99, l_100, l_101, l_102, l_115, l_124, l_127, l_128, l_140, l_201, l_206, l_300, l_906, l_999, l_9999, l_1000000, l_252645135, l_858993459, l_1000000000, l_1431655765, nI_add, pk_mul, nI_clamp, inb_nI, ilt_T, ilt_F, ile_T, ile_F, ieq_T, ieq_F, nbz_0, nbz_1, ↓reduceIte, true_and, and_true, and_self, ite_true, ite_false, x_has c1 hS7 hk]
    · simp -underLambda (disch := omega) only [↓nm_eq, gd_t, bd_s, bd2_s, l_0, l_1, l_2, l_3, l_4, l_5, l_6, l_7, l_8, l_9, l_10, l_11, l_12, l_13, l_14, l_15, l_16, l_17, l_18, l_19, l_20, l_21, l_22, l_23, l_24, l_25, l_31, l_32, l_33, l_38, l_40, l_41, l_48, l_51, l_57, l_59, l_60, l_61, l_63, l_87, l_94, l_97, l_99, l_100, l_101, l_102, l_115, l_124, l_127, l_128, l_140, l_201, l_206, l_300, l_906, l_999, l_9999, l_1000000, l_252645135, l_858993459, l_1000000000, l_1431655765, nI_add, pk_mul, nI_clamp, inb_nI, ilt_T, ilt_F, ile_T, ile_F, ieq_T, ieq_F, nbz_0, nbz_1, ↓reduceIte, true_and, and_true, and_self, ite_true, ite_false, x_isS m1 hS7 hk, x_in]
  rcases i_cases z with h | ⟨n, hn, rfl⟩
  · refine no (-2) ?_ ?_
    · simp -underLambda (disch := omega) only [↓nm_eq, gd_t, bd_s, bd2_s, l_0, l_1, l_2, l_3, l_4, l_5, l_6, l_7, l_8, l_9, l_10, l_11, l_12, l_13, l_14, l_15, l_16, l_17, l_18, l_19, l_20, l_21, l_22, l_23, l_24, l_25, l_31, l_32, l_33, l_38, l_40, l_41, l_48, l_51, l_57, l_59, l_60, l_61, l_63, l_87, l_94, l_97, l_99, l_100, l_101, l_102, l_115, l_124, l_127, l_128, l_140, l_201, l_206, l_300, l_906, l_999, l_9999, l_1000000, l_252645135, l_858993459, l_1000000000, l_1431655765, nI_add, pk_mul, nI_clamp, inb_nI, ilt_T, ilt_F, ile_T, ile_F, ieq_T, ieq_F, nbz_0, nbz_1, ↓reduceIte, true_and, and_true, and_self, ite_true, ite_false, x_has c1 hS7 hk]
      rw [if_pos h]
    · simp -underLambda (disch := omega) only [↓nm_eq, gd_t, bd_s, bd2_s, l_0, l_1, l_2, l_3, l_4, l_5, l_6, l_7, l_8, l_9, l_10, l_11, l_12, l_13, l_14, l_15, l_16, l_17, l_18, l_19, l_20, l_21, l_22, l_23, l_24, l_25, l_31, l_32, l_33, l_38, l_40, l_41, l_48, l_51, l_57, l_59, l_60, l_61, l_63, l_87, l_94, l_97, l_99, l_100, l_101, l_102, l_115, l_124, l_127, l_128, l_140, l_201, l_206, l_300, l_906, l_999, l_9999, l_1000000, l_252645135, l_858993459, l_1000000000, l_1431655765, nI_add, pk_mul, nI_clamp, inb_nI, ilt_T, ilt_F, ile_T, ile_F, ieq_T, ieq_F, nbz_0, nbz_1, ↓reduceIte, true_and, and_true, and_self, ite_true, ite_false, x_isS m1 hS7 hk, x_in, x_in_lo h]
  by_cases hn1 : 9999 < n
  · refine no (-2) ?_ ?_
    · simp -underLambda (disch := omega) only [↓nm_eq, gd_t, bd_s, bd2_s, l_0, l_1, l_2, l_3, l_4, l_5, l_6, l_7, l_8, l_9, l_10, l_11, l_12, l_13, l_14, l_15, l_16, l_17, l_18, l_19, l_20, l_21, l_22, l_23, l_24, l_25, l_31, l_32, l_33, l_38, l_40, l_41, l_48, l_51, l_57, l_59, l_60, l_61, l_63, l_87, l_94, l_97, l_99, l_100, l_101, l_102, l_115, l_124, l_127, l_128, l_140, l_201, l_206, l_300, l_906, l_999, l_9999, l_1000000, l_252645135, l_858993459, l_1000000000, l_1431655765, nI_add, pk_mul, nI_clamp, inb_nI, ilt_T, ilt_F, ile_T, ile_F, ieq_T, ieq_F, nbz_0, nbz_1, ↓reduceIte, true_and, and_true, and_self, ite_true, ite_false, x_has c1 hS7 hk]
    · simp -underLambda (disch := omega) only [↓nm_eq, gd_t, bd_s, bd2_s, l_0, l_1, l_2, l_3, l_4, l_5, l_6, l_7, l_8, l_9, l_10, l_11, l_12, l_13, l_14, l_15, l_16, l_17, l_18, l_19, l_20, l_21, l_22, l_23, l_24, l_25, l_31, l_32, l_33, l_38, l_40, l_41, l_48, l_51, l_57, l_59, l_60, l_61, l_63, l_87, l_94, l_97, l_99, l_100, l_101, l_102, l_115, l_124, l_127, l_128, l_140, l_201, l_206, l_300, l_906, l_999, l_9999, l_1000000, l_252645135, l_858993459, l_1000000000, l_1431655765, nI_add, pk_mul, nI_clamp, inb_nI, ilt_T, ilt_F, ile_T, ile_F, ieq_T, ieq_F, nbz_0, nbz_1, ↓reduceIte, true_and, and_true, and_self, ite_true, ite_false, x_isS m1 hS7 hk, x_in]
  have hkS' : k < aS A := by omega
  obtain ⟨d1, d2, d3, d4, d5⟩ := cS k hkS'
  obtain ⟨e1, e2, e3, e4, e5⟩ := mS k hkS'
  rcases (show w = 0 ∨ w = 1 by omega) with rfl | rfl
  · refine ⟨nI (ii A k), sar σ 12 k (nI n), sar (sar σ 12 k (nI n)) 61 (24 + k) (nI n), (A.1, kd A, vv A, (fun i => if i = k then n else ii A i), oo A, ld A, tp A, ti A, tu A, tw A), ?_, ?_, ?_⟩
    · simp -underLambda (disch := omega) only [↓nm_eq, gd_t, bd_s, bd2_s, l_0, l_1, l_2, l_3, l_4, l_5, l_6, l_7, l_8, l_9, l_10, l_11, l_12, l_13, l_14, l_15, l_16, l_17, l_18, l_19, l_20, l_21, l_22, l_23, l_24, l_25, l_31, l_32, l_33, l_38, l_40, l_41, l_48, l_51, l_57, l_59, l_60, l_61, l_63, l_87, l_94, l_97, l_99, l_100, l_101, l_102, l_115, l_124, l_127, l_128, l_140, l_201, l_206, l_300, l_906, l_999, l_9999, l_1000000, l_252645135, l_858993459, l_1000000000, l_1431655765, nI_add, pk_mul, nI_clamp, inb_nI, ilt_T, ilt_F, ile_T, ile_F, ieq_T, ieq_F, nbz_0, nbz_1, ↓reduceIte, true_and, and_true, and_self, ite_true, ite_false, x_has c1 hS7 hk, d3]
    · simp -underLambda (disch := omega) only [↓nm_eq, gd_t, bd_s, bd2_s, l_0, l_1, l_2, l_3, l_4, l_5, l_6, l_7, l_8, l_9, l_10, l_11, l_12, l_13, l_14, l_15, l_16, l_17, l_18, l_19, l_20, l_21, l_22, l_23, l_24, l_25, l_31, l_32, l_33, l_38, l_40, l_41, l_48, l_51, l_57, l_59, l_60, l_61, l_63, l_87, l_94, l_97, l_99, l_100, l_101, l_102, l_115, l_124, l_127, l_128, l_140, l_201, l_206, l_300, l_906, l_999, l_9999, l_1000000, l_252645135, l_858993459, l_1000000000, l_1431655765, nI_add, pk_mul, nI_clamp, inb_nI, ilt_T, ilt_F, ile_T, ile_F, ieq_T, ieq_F, nbz_0, nbz_1, ↓reduceIte, true_and, and_true, and_self, ite_true, ite_false, ar_sar, x_isS (σ := sar σ 12 k (nI n)) (show ar (sar σ 12 k (nI n)) 61 0 = nI (aS A) from m1) hS7 hk, x_in, e3]
    · refine hI.upd ⟨⟨hS7, hD99, hT100, hW5, hZ7⟩, fun i hi => ?_, hAT, hAZ, hAW, hAW0⟩ ⟨⟨c1, c2, c3, c4, c5⟩, fun i hi => ?_, fun i hi => ?_, fun i hi => ?_, cW.same rfl rfl (fun k hk => ?_)⟩ ?_ (((Sk.rf σ).sar _ _ rfl).sar _ _ rfl)
      · obtain ⟨p1, p2, p3, p4⟩ := hAS i hi
        refine ⟨p1, p2, ?_, p4⟩
        show (if i = k then n else ii A i) ≤ 9999
        split <;> omega
      · obtain ⟨p1, p2, p3, p4, p5⟩ := cS i hi
        refine ⟨?_, ?_, ?_, ?_, ?_⟩
        case refine_3 =>
          show _ = nI (if i = k then n else ii A i)
          by_cases e : i = k
          · simp (disch := omega) only [rg_srg, rg_sar, rg_sal, rg_srow, rg_srowl, ar_srg, ar_sar, ar_sal, ar_srow, ar_srowl, al_srg, al_sar, al_sal, al_srow, al_srowl, true_and, and_true, and_self, ite_true, ite_false, if_pos, if_neg]
          · simp (disch := omega) only [rg_srg, rg_sar, rg_sal, rg_srow, rg_srowl, ar_srg, ar_sar, ar_sal, ar_srow, ar_srowl, al_srg, al_sar, al_sal, al_srow, al_srowl, true_and, and_true, and_self, ite_true, ite_false, if_pos, if_neg]
            exact p3
        all_goals simp (disch := omega) only [rg_srg, rg_sar, rg_sal, rg_srow, rg_srowl, ar_srg, ar_sar, ar_sal, ar_srow, ar_srowl, al_srg, al_sar, al_sal, al_srow, al_srowl, true_and, and_true, and_self, ite_true, ite_false, if_pos, if_neg]
        all_goals assumption
      · simp (disch := omega) only [rg_srg, rg_sar, rg_sal, rg_srow, rg_srowl, ar_srg, ar_sar, ar_sal, ar_srow, ar_srowl, al_srg, al_sar, al_sal, al_srow, al_srowl, true_and, and_true, and_self, ite_true, ite_false, if_pos, if_neg]
        exact cT i hi
      · simp (disch := omega) only [rg_srg, rg_sar, rg_sal, rg_srow, rg_srowl, ar_srg, ar_sar, ar_sal, ar_srow, ar_srowl, al_srg, al_sar, al_sal, al_srow, al_srowl, true_and, and_true, and_self, ite_true, ite_false, if_pos, if_neg]
        exact cZ i hi
      · rw [ar_sar_ne (by omega), ar_sar_ne (by omega)]
      · refine ⟨⟨?_, ?_, ?_, ?_, ?_, ?_⟩, fun k hk => ⟨?_, ?_, ?_, ?_, fun j hj => ?_⟩, fun i hi => ?_, fun i hi => ⟨?_, ?_⟩, fun h0 => ⟨?_, fun i hi => ?_⟩⟩
        case refine_7.refine_3 => sorry
        all_goals sorry
  · sorry
