/-! small operations: class and model answer alike -/
theorem i_cases (x : Int32) : x < nI 0 ∨ ∃ n : Nat, n < 2 ^ 31 ∧ x = nI n := by
  by_cases h : x < 0
  · exact Or.inl h
  · exact Or.inr (nI_of h)
theorem i_lo {x : Int32} (h : x < nI 0) : ¬ 0 ≤ x.toInt := by
  have : x.toInt < (nI 0).toInt := Int32.lt_iff_toInt_lt.mp h
  rw [nI_toInt (by decide)] at this
  omega
theorem i_loT {x : Int32} (h : x < nI 0) {n : Nat} (hn : n < 2 ^ 31) : x < nI n ∧ x ≤ nI n ∧ ¬ nI n < x ∧ ¬ nI n ≤ x ∧ ¬ x = nI n ∧ ¬ nI n = x := by
  have h1 := i_lo h
  have h2 := nI_toInt hn
  refine ⟨Int32.lt_iff_toInt_lt.mpr (by omega), Int32.le_iff_toInt_le.mpr (by omega), fun q => ?_, fun q => ?_, fun q => ?_, fun q => ?_⟩
  · have := Int32.lt_iff_toInt_lt.mp q; omega
  · have := Int32.le_iff_toInt_le.mp q; omega
  · rw [q] at h1; omega
  · rw [← q] at h1; omega
theorem x_in_lo {N : Nat} {σ : Sg} {x : Int32} (h : x < nI 0) {a : Nat} (ha : a < 2 ^ 31) (b : Int32) : f_X7_in N x (nI a) b σ = some (nI 0, σ) := by
  unfold f_X7_in b_X7_in_14
  rw [if_pos (i_loT h ha).1]
  rfl
theorem x_in {N : Nat} {σ : Sg} {n a b : Nat} (hn : n < 2 ^ 31) (ha : a < 2 ^ 31) (hb : b < 2 ^ 31) : f_X7_in N (nI n) (nI a) (nI b) σ = some (if a ≤ n ∧ n ≤ b then 1 else 0, σ) := by
  unfold f_X7_in b_X7_in_14
  by_cases h1 : n < a
  · rw [if_pos ((nI_ltI hn ha).mpr h1), if_neg (by omega)]
  · rw [if_neg (fun q => h1 ((nI_ltI hn ha).mp q))]
    by_cases h2 : b < n
    · rw [if_pos ((nI_ltI hb hn).mpr h2), if_neg (by omega)]
    · rw [if_neg (fun q => h2 ((nI_ltI hb hn).mp q)), if_pos (by omega)]
theorem x_in_T {N : Nat} {σ : Sg} {n a b : Nat} (h1 : a ≤ n) (h2 : n ≤ b) (hb : b < 2 ^ 31) : f_X7_in N (nI n) (nI a) (nI b) σ = some (nI 1, σ) := by
  rw [x_in (by omega) (by omega) hb, if_pos ⟨h1, h2⟩]
  rfl
theorem x_in_F {N : Nat} {σ : Sg} {n a b : Nat} (h : n < a ∨ b < n) (hn : n < 2 ^ 31) (ha : a < 2 ^ 31) (hb : b < 2 ^ 31) : f_X7_in N (nI n) (nI a) (nI b) σ = some (nI 0, σ) := by
  rw [x_in hn ha hb, if_neg (by omega)]
  rfl
theorem x_has_T {N : Nat} {σ : Sg} {S n : Nat} (hS : rg σ 1 0 = nI S) (h7 : S ≤ 7) (h : n < S) : f_X4_has N (nI n) σ = some (nI 1, σ) := by
  unfold f_X4_has b_X4_has_16
  rw [hS]
  simp (disch := omega) only [↓nm_eq, gd_t, bd_s, bd2_s, l_0, l_1, l_2, l_3, l_4, l_5, l_6, l_7, l_8, l_9, l_10, l_11, l_12, l_13, l_14, l_15, l_16, l_17, l_18, l_19, l_20, l_21, l_22, l_23, l_24, l_25, l_31, l_32, l_33, l_38, l_40, l_41, l_48, l_51, l_57, l_59, l_60, l_61, l_63, l_87, l_94, l_97, l_99, l_100, l_101, l_102, l_115, l_124, l_127, l_128, l_140, l_201, l_206, l_300, l_906, l_999, l_9999, l_1000000, l_252645135, l_858993459, l_1000000000, l_1431655765, nI_add, pk_mul, nI_clamp, inb_nI, ilt_T, ilt_F, ile_T, ile_F, ieq_T, ieq_F, nbz_0, nbz_1, rg_sar, ar_srg, ar_s1, ar_s2, rg_s1, rg_s2, neg_1, neg_2, ↓reduceIte, true_and, and_true, and_self, ite_true, ite_false]
theorem x_has_F {N : Nat} {σ : Sg} {S n : Nat} (hS : rg σ 1 0 = nI S) (h7 : S ≤ 7) (h : S ≤ n) (hn : n < 2 ^ 31) : f_X4_has N (nI n) σ = some (nI 0, σ) := by
  unfold f_X4_has b_X4_has_16
  rw [hS]
  simp (disch := omega) only [↓nm_eq, gd_t, bd_s, bd2_s, l_0, l_1, l_2, l_3, l_4, l_5, l_6, l_7, l_8, l_9, l_10, l_11, l_12, l_13, l_14, l_15, l_16, l_17, l_18, l_19, l_20, l_21, l_22, l_23, l_24, l_25, l_31, l_32, l_33, l_38, l_40, l_41, l_48, l_51, l_57, l_59, l_60, l_61, l_63, l_87, l_94, l_97, l_99, l_100, l_101, l_102, l_115, l_124, l_127, l_128, l_140, l_201, l_206, l_300, l_906, l_999, l_9999, l_1000000, l_252645135, l_858993459, l_1000000000, l_1431655765, nI_add, pk_mul, nI_clamp, inb_nI, ilt_T, ilt_F, ile_T, ile_F, ieq_T, ieq_F, nbz_0, nbz_1, rg_sar, ar_srg, ar_s1, ar_s2, rg_s1, rg_s2, neg_1, neg_2, ↓reduceIte, true_and, and_true, and_self, ite_true, ite_false]
theorem x_has_lo {N : Nat} {σ : Sg} {x : Int32} (h : x < nI 0) : f_X4_has N x σ = some (nI 0, σ) := by
  unfold f_X4_has b_X4_has_16
  rw [if_pos (show x < 0 from h)]
  rfl
theorem x_isS_T {N : Nat} {σ : Sg} {S n : Nat} (hS : ar σ 61 0 = nI S) (h7 : S ≤ 7) (h : n < S) : f_X7_isStreet N (nI n) σ = some (nI 1, σ) := by
  unfold f_X7_isStreet
  simp (disch := omega) only [↓nm_eq, gd_t, bd_s, bd2_s, l_0, l_1, l_2, l_3, l_4, l_5, l_6, l_7, l_8, l_9, l_10, l_11, l_12, l_13, l_14, l_15, l_16, l_17, l_18, l_19, l_20, l_21, l_22, l_23, l_24, l_25, l_31, l_32, l_33, l_38, l_40, l_41, l_48, l_51, l_57, l_59, l_60, l_61, l_63, l_87, l_94, l_97, l_99, l_100, l_101, l_102, l_115, l_124, l_127, l_128, l_140, l_201, l_206, l_300, l_906, l_999, l_9999, l_1000000, l_252645135, l_858993459, l_1000000000, l_1431655765, nI_add, pk_mul, nI_clamp, inb_nI, ilt_T, ilt_F, ile_T, ile_F, ieq_T, ieq_F, nbz_0, nbz_1, rg_sar, ar_srg, ar_s1, ar_s2, rg_s1, rg_s2, neg_1, neg_2, ↓reduceIte, true_and, and_true, and_self, ite_true, ite_false, hS]
  rw [pk_sub (by omega), x_in_T (by omega) (by omega) (by omega)]
  simp (disch := omega) only [↓nm_eq, gd_t, bd_s, bd2_s, l_0, l_1, l_2, l_3, l_4, l_5, l_6, l_7, l_8, l_9, l_10, l_11, l_12, l_13, l_14, l_15, l_16, l_17, l_18, l_19, l_20, l_21, l_22, l_23, l_24, l_25, l_31, l_32, l_33, l_38, l_40, l_41, l_48, l_51, l_57, l_59, l_60, l_61, l_63, l_87, l_94, l_97, l_99, l_100, l_101, l_102, l_115, l_124, l_127, l_128, l_140, l_201, l_206, l_300, l_906, l_999, l_9999, l_1000000, l_252645135, l_858993459, l_1000000000, l_1431655765, nI_add, pk_mul, nI_clamp, inb_nI, ilt_T, ilt_F, ile_T, ile_F, ieq_T, ieq_F, nbz_0, nbz_1, rg_sar, ar_srg, ar_s1, ar_s2, rg_s1, rg_s2, neg_1, neg_2, ↓reduceIte, true_and, and_true, and_self, ite_true, ite_false]
theorem x_isS_F {N : Nat} {σ : Sg} {S n : Nat} (hS : ar σ 61 0 = nI S) (h7 : S ≤ 7) (h : S ≤ n) (hn : n < 2 ^ 31) : f_X7_isStreet N (nI n) σ = some (nI 0, σ) := by
  unfold f_X7_isStreet
  simp (disch := omega) only [↓nm_eq, gd_t, bd_s, bd2_s, l_0, l_1, l_2, l_3, l_4, l_5, l_6, l_7, l_8, l_9, l_10, l_11, l_12, l_13, l_14, l_15, l_16, l_17, l_18, l_19, l_20, l_21, l_22, l_23, l_24, l_25, l_31, l_32, l_33, l_38, l_40, l_41, l_48, l_51, l_57, l_59, l_60, l_61, l_63, l_87, l_94, l_97, l_99, l_100, l_101, l_102, l_115, l_124, l_127, l_128, l_140, l_201, l_206, l_300, l_906, l_999, l_9999, l_1000000, l_252645135, l_858993459, l_1000000000, l_1431655765, nI_add, pk_mul, nI_clamp, inb_nI, ilt_T, ilt_F, ile_T, ile_F, ieq_T, ieq_F, nbz_0, nbz_1, rg_sar, ar_srg, ar_s1, ar_s2, rg_s1, rg_s2, neg_1, neg_2, ↓reduceIte, true_and, and_true, and_self, ite_true, ite_false, hS]
  by_cases h0 : S = 0
  · subst h0
    unfold f_X7_in b_X7_in_14
    have e : (nI 0 - nI 1 : Int32) = -1 := by decide
    rw [e]
    rw [if_neg (fun q => by have := (nI_ltI hn (by decide)).mp q; omega), if_pos (by rw [Int32.lt_iff_toInt_lt, nI_toInt hn]; show (-1 : Int) < _; omega)]
    simp (disch := omega) only [↓nm_eq, gd_t, bd_s, bd2_s, l_0, l_1, l_2, l_3, l_4, l_5, l_6, l_7, l_8, l_9, l_10, l_11, l_12, l_13, l_14, l_15, l_16, l_17, l_18, l_19, l_20, l_21, l_22, l_23, l_24, l_25, l_31, l_32, l_33, l_38, l_40, l_41, l_48, l_51, l_57, l_59, l_60, l_61, l_63, l_87, l_94, l_97, l_99, l_100, l_101, l_102, l_115, l_124, l_127, l_128, l_140, l_201, l_206, l_300, l_906, l_999, l_9999, l_1000000, l_252645135, l_858993459, l_1000000000, l_1431655765, nI_add, pk_mul, nI_clamp, inb_nI, ilt_T, ilt_F, ile_T, ile_F, ieq_T, ieq_F, nbz_0, nbz_1, rg_sar, ar_srg, ar_s1, ar_s2, rg_s1, rg_s2, neg_1, neg_2, ↓reduceIte, true_and, and_true, and_self, ite_true, ite_false]
  · rw [pk_sub (by omega), x_in_F (by omega) hn (by omega) (by omega)]
    simp (disch := omega) only [↓nm_eq, gd_t, bd_s, bd2_s, l_0, l_1, l_2, l_3, l_4, l_5, l_6, l_7, l_8, l_9, l_10, l_11, l_12, l_13, l_14, l_15, l_16, l_17, l_18, l_19, l_20, l_21, l_22, l_23, l_24, l_25, l_31, l_32, l_33, l_38, l_40, l_41, l_48, l_51, l_57, l_59, l_60, l_61, l_63, l_87, l_94, l_97, l_99, l_100, l_101, l_102, l_115, l_124, l_127, l_128, l_140, l_201, l_206, l_300, l_906, l_999, l_9999, l_1000000, l_252645135, l_858993459, l_1000000000, l_1431655765, nI_add, pk_mul, nI_clamp, inb_nI, ilt_T, ilt_F, ile_T, ile_F, ieq_T, ieq_F, nbz_0, nbz_1, rg_sar, ar_srg, ar_s1, ar_s2, rg_s1, rg_s2, neg_1, neg_2, ↓reduceIte, true_and, and_true, and_self, ite_true, ite_false]
theorem x_isS_lo {N : Nat} {σ : Sg} {x : Int32} (h : x < nI 0) : f_X7_isStreet N x σ = some (nI 0, σ) := by
  unfold f_X7_isStreet
  simp (disch := omega) only [↓nm_eq, gd_t, bd_s, bd2_s, l_0, l_1, l_2, l_3, l_4, l_5, l_6, l_7, l_8, l_9, l_10, l_11, l_12, l_13, l_14, l_15, l_16, l_17, l_18, l_19, l_20, l_21, l_22, l_23, l_24, l_25, l_31, l_32, l_33, l_38, l_40, l_41, l_48, l_51, l_57, l_59, l_60, l_61, l_63, l_87, l_94, l_97, l_99, l_100, l_101, l_102, l_115, l_124, l_127, l_128, l_140, l_201, l_206, l_300, l_906, l_999, l_9999, l_1000000, l_252645135, l_858993459, l_1000000000, l_1431655765, nI_add, pk_mul, nI_clamp, inb_nI, ilt_T, ilt_F, ile_T, ile_F, ieq_T, ieq_F, nbz_0, nbz_1, rg_sar, ar_srg, ar_s1, ar_s2, rg_s1, rg_s2, neg_1, neg_2, ↓reduceIte, true_and, and_true, and_self, ite_true, ite_false, x_in_lo h]
/-- class and model answer alike, and stand for the same behind it -/
def Ok2 (fx fm : Sg → Option (Int32 × Sg)) (σ : Sg) : Prop := ∃ (r : Int32) (σ1 σ2 : Sg) (A : Ab), fx σ = some (r, σ1) ∧ fm σ1 = some (r, σ2) ∧ Inv A σ2
def Okl (fx fm : Sg → Option (Int64 × Sg)) (σ : Sg) : Prop := ∃ (r : Int64) (σ1 σ2 : Sg) (A : Ab), fx σ = some (r, σ1) ∧ fm σ1 = some (r, σ2) ∧ Inv A σ2
theorem Ok2.q {fx fm : Sg → Option (Int32 × Sg)} {σ : Sg} {A : Ab} {v : Int32} (hI : Inv A σ) (h1 : Ev (fx σ) v σ) (h2 : ∀ σ', Inv A σ' → Ev (fm σ') v σ') : Ok2 fx fm σ := by
  obtain ⟨σ1, e1, m1⟩ := h1
  obtain ⟨σ2, e2, m2⟩ := h2 σ1 (hI.sm m1)
  exact ⟨v, σ1, σ2, A, e1, e2, (hI.sm m1).sm m2⟩
theorem Ev.mk {o : Option (Int32 × Sg)} {v : Int32} {σ : Sg} (h : o = some (v, σ)) : Ev o v σ := ⟨σ, h, Sm.rf σ⟩
/-- what an operation on the state that is now leaves alone: the image, the trace -/
def kA (k : Nat) : Bool := decide ((18 ≤ k ∧ k ≤ 25) ∨ (31 ≤ k ∧ k ≤ 34) ∨ k = 38 ∨ k = 59 ∨ k = 62 ∨ k = 82)
def kR (k j : Nat) : Bool := decide (k = 2 ∨ k = 4 ∨ (k = 0 ∧ j = 2) ∨ (k = 9 ∧ j = 0) ∨ (k = 60 ∧ (j = 3 ∨ j = 34)))
def Sk (σ σ' : Sg) : Prop := (∀ k j, kR k j = true → rg σ' k j = rg σ k j) ∧ ∀ k, kA k = true → ar σ' k = ar σ k
theorem Sk.rf (σ : Sg) : Sk σ σ := ⟨fun _ _ _ => rfl, fun _ _ => rfl⟩
theorem Sk.srg {a b : Sg} (h : Sk a b) {k j : Nat} (v : Int32) (hc : kR k j = false) : Sk a (srg b k j v) := by
  refine ⟨fun x y e => ?_, h.2⟩
  rw [rg_srg, if_neg (by rintro ⟨rfl, rfl⟩; rw [hc] at e; cases e)]
  exact h.1 x y e
theorem Sk.sar {a b : Sg} (h : Sk a b) {k : Nat} (j : Nat) (v : Int32) (hc : kA k = false) : Sk a (sar b k j v) := by
  refine ⟨h.1, fun x e => ?_⟩
  rw [← h.2 x e]
  funext y
  rw [ar_sar, if_neg (by rintro ⟨rfl, rfl⟩; rw [hc] at e; cases e)]
theorem Sk.srow {a b : Sg} (h : Sk a b) {k : Nat} (g : Nat → Int32) (hc : kA k = false) : Sk a (srow b k g) := by
  refine ⟨h.1, fun x e => ?_⟩
  rw [← h.2 x e]
  funext y
  rw [ar_srow, if_neg (by rintro rfl; rw [hc] at e; cases e)]
theorem Sk.tr {a b c : Sg} (h : Sk a b) (g : Sk b c) : Sk a c := ⟨fun k j e => (g.1 k j e).trans (h.1 k j e), fun k e => (g.2 k e).trans (h.2 k e)⟩
theorem Sm.sk {a b : Sg} (h : Sm a b) : Sk a b := ⟨fun k j e => h.1 k j (by unfold kR at e; unfold cR; have := of_decide_eq_true e; exact decide_eq_true (by omega)), fun k e => h.2 k (by unfold kA at e; unfold cA; have := of_decide_eq_true e; exact decide_eq_true (by omega))⟩
theorem Inv.upd {A A' : Ab} {σ σ' : Sg} (hI : Inv A σ) (hA : AOK A') (hC : RC 1 10 3 26 A' σ') (hM : RM 61 A' σ') (hk : Sk σ σ') : Inv A' σ' := by
  obtain ⟨-, -, -, h4, r, h5, h6, h7, h8⟩ := hI
  refine ⟨hA, hC, hM, ?_, r, h5, (hk.1 9 0 (by decide)).trans h6, (hk.1 60 34 (by decide)).trans h7, fun i a b => ?_⟩
  · obtain ⟨h9, h4⟩ := h4
    refine ⟨by rw [hk.2 38 (by decide)]; exact h9, ?_⟩
    rw [hk.1 0 2 (by decide), hk.1 60 3 (by decide)]
    rcases h4 with h4 | ⟨a, b, B, c, d, e⟩
    · exact Or.inl h4
    · refine Or.inr ⟨a, b, B, c, d.same (fun j => hk.1 2 j (by unfold kR; exact decide_eq_true (by omega))) (fun k h => hk.2 _ (by unfold kA; exact decide_eq_true (by omega))) (fun j => hk.1 4 j (by unfold kR; exact decide_eq_true (by omega))) (fun k h => hk.2 _ (by unfold kA; exact decide_eq_true (by omega))), e.same (hk.2 _ (by decide))⟩
  · rw [hk.2 59 (by decide), hk.2 82 (by decide)]
    exact h8 i a b
theorem op_count {N : Nat} {σ : Sg} {A : Ab} (hI : Inv A σ) (x : Int32) : Ok2 (f_X6_count N x) (f_X7_count N x) σ := by
  obtain ⟨⟨hS7, hD99, hT100, hW5, hZ7⟩, hAS, hAT, hAZ, hAW, hAW0⟩ := id hI.1
  obtain ⟨-, hC, hM, hK, r, hr, r1, r2, r3⟩ := id hI
  obtain ⟨⟨c1, c2, c3, c4, c5⟩, cS, cT, cZ, cW⟩ := id hC
  obtain ⟨⟨m1, m2, m3, m4, m5, m6⟩, mS, mT, mZ, mW⟩ := id hM
  refine ⟨if x = 0 then nI (aS A) else if x = 1 then nI (aW A) else if x = 2 then nI (aZ A) else if x = 3 then nI (aT A) else if x = 4 then nI r else -1, σ, σ, A, ?_, ?_, hI⟩
  · unfold f_X6_count
    rw [c1, c3, c4, c5, r1]
    (repeat' split) <;> rfl
  · unfold f_X7_count
    simp (disch := omega) only [↓nm_eq, gd_t, bd_s, bd2_s, l_0, l_1, l_2, l_3, l_4, l_5, l_6, l_7, l_8, l_9, l_10, l_11, l_12, l_13, l_14, l_15, l_16, l_17, l_18, l_19, l_20, l_21, l_22, l_23, l_24, l_25, l_31, l_32, l_33, l_38, l_40, l_41, l_48, l_51, l_57, l_59, l_60, l_61, l_63, l_87, l_94, l_97, l_99, l_100, l_101, l_102, l_115, l_124, l_127, l_128, l_140, l_201, l_206, l_300, l_906, l_999, l_9999, l_1000000, l_252645135, l_858993459, l_1000000000, l_1431655765, nI_add, pk_mul, nI_clamp, inb_nI, ilt_T, ilt_F, ile_T, ile_F, ieq_T, ieq_F, nbz_0, nbz_1, rg_sar, ar_srg, ar_s1, ar_s2, rg_s1, rg_s2, neg_1, neg_2, ↓reduceIte, true_and, and_true, and_self, ite_true, ite_false, m1, m3, m4, m5, r2]
    by_cases h0 : x = nI 0
    · simp only [eq_true h0, ↓reduceIte]
    by_cases h1 : x = nI 1
    · simp only [eq_false h0, eq_true h1, ↓reduceIte]
    by_cases h2 : x = nI 2
    · simp only [eq_false h0, eq_false h1, eq_true h2, ↓reduceIte]
    by_cases h3 : x = nI 3
    · simp only [eq_false h0, eq_false h1, eq_false h2, eq_true h3, ↓reduceIte]
    by_cases h4 : x = nI 4
    · simp only [eq_false h0, eq_false h1, eq_false h2, eq_false h3, eq_true h4, ↓reduceIte]
    · simp only [eq_false h0, eq_false h1, eq_false h2, eq_false h3, eq_false h4, ↓reduceIte]
theorem op_day {N : Nat} {σ : Sg} {A : Ab} (hI : Inv A σ) (x : Int32) : Ok2 (f_X6_day N x) (f_X7_day N x) σ := by
  obtain ⟨⟨hS7, hD99, hT100, hW5, hZ7⟩, hAS, hAT, hAZ, hAW, hAW0⟩ := id hI.1
  obtain ⟨-, hC, hM, hK, r, hr, r1, r2, r3⟩ := id hI
  obtain ⟨⟨c1, c2, c3, c4, c5⟩, cS, cT, cZ, cW⟩ := id hC
  obtain ⟨⟨m1, m2, m3, m4, m5, m6⟩, mS, mT, mZ, mW⟩ := id hM
  unfold f_X6_day f_X7_day
  rcases i_cases x with h | ⟨n, hn, rfl⟩
  · refine ⟨-2, σ, σ, A, ?_, ?_, hI⟩
    · dsimp only
      rw [if_pos (show x < 0 from h)]
    · simp (disch := omega) only [↓nm_eq, gd_t, bd_s, bd2_s, l_0, l_1, l_2, l_3, l_4, l_5, l_6, l_7, l_8, l_9, l_10, l_11, l_12, l_13, l_14, l_15, l_16, l_17, l_18, l_19, l_20, l_21, l_22, l_23, l_24, l_25, l_31, l_32, l_33, l_38, l_40, l_41, l_48, l_51, l_57, l_59, l_60, l_61, l_63, l_87, l_94, l_97, l_99, l_100, l_101, l_102, l_115, l_124, l_127, l_128, l_140, l_201, l_206, l_300, l_906, l_999, l_9999, l_1000000, l_252645135, l_858993459, l_1000000000, l_1431655765, nI_add, pk_mul, nI_clamp, inb_nI, ilt_T, ilt_F, ile_T, ile_F, ieq_T, ieq_F, nbz_0, nbz_1, rg_sar, ar_srg, ar_s1, ar_s2, rg_s1, rg_s2, neg_1, neg_2, ↓reduceIte, true_and, and_true, and_self, ite_true, ite_false, x_in_lo h]
  · by_cases h99 : n ≤ 99
    · refine ⟨nI (aD A), srg σ 1 6 (nI n), sar (srg σ 1 6 (nI n)) 61 5 (nI n), ((aS A, n, aT A, aW A, aZ A), A.2), ?_, ?_, ?_⟩
      · simp (disch := omega) only [↓nm_eq, gd_t, bd_s, bd2_s, l_0, l_1, l_2, l_3, l_4, l_5, l_6, l_7, l_8, l_9, l_10, l_11, l_12, l_13, l_14, l_15, l_16, l_17, l_18, l_19, l_20, l_21, l_22, l_23, l_24, l_25, l_31, l_32, l_33, l_38, l_40, l_41, l_48, l_51, l_57, l_59, l_60, l_61, l_63, l_87, l_94, l_97, l_99, l_100, l_101, l_102, l_115, l_124, l_127, l_128, l_140, l_201, l_206, l_300, l_906, l_999, l_9999, l_1000000, l_252645135, l_858993459, l_1000000000, l_1431655765, nI_add, pk_mul, nI_clamp, inb_nI, ilt_T, ilt_F, ile_T, ile_F, ieq_T, ieq_F, nbz_0, nbz_1, rg_sar, ar_srg, ar_s1, ar_s2, rg_s1, rg_s2, neg_1, neg_2, ↓reduceIte, true_and, and_true, and_self, ite_true, ite_false, c2]
      · simp (disch := omega) only [↓nm_eq, gd_t, bd_s, bd2_s, l_0, l_1, l_2, l_3, l_4, l_5, l_6, l_7, l_8, l_9, l_10, l_11, l_12, l_13, l_14, l_15, l_16, l_17, l_18, l_19, l_20, l_21, l_22, l_23, l_24, l_25, l_31, l_32, l_33, l_38, l_40, l_41, l_48, l_51, l_57, l_59, l_60, l_61, l_63, l_87, l_94, l_97, l_99, l_100, l_101, l_102, l_115, l_124, l_127, l_128, l_140, l_201, l_206, l_300, l_906, l_999, l_9999, l_1000000, l_252645135, l_858993459, l_1000000000, l_1431655765, nI_add, pk_mul, nI_clamp, inb_nI, ilt_T, ilt_F, ile_T, ile_F, ieq_T, ieq_F, nbz_0, nbz_1, rg_sar, ar_srg, ar_s1, ar_s2, rg_s1, rg_s2, neg_1, neg_2, ↓reduceIte, true_and, and_true, and_self, ite_true, ite_false, x_in_T, m2]
      · refine hI.upd ⟨⟨hS7, h99, hT100, hW5, hZ7⟩, hI.1.2⟩ ⟨⟨c1, rfl, c3, c4, c5⟩, cS, cT, cZ, cW.same rfl rfl (fun k hk => ar_sar_ne (by omega))⟩ ?_ (((Sk.rf σ).srg _ rfl).sar _ _ rfl)
        refine ⟨⟨?_, ?_, ?_, ?_, ?_, ?_⟩, fun k hk => ⟨?_, ?_, ?_, ?_, fun j hj => ?_⟩, fun i hi => ?_, fun i hi => ⟨?_, ?_⟩, fun h0 => ⟨?_, fun i hi => ?_⟩⟩
        all_goals simp (disch := omega) only [rg_sar, rg_sal, rg_srow, rg_srowl, ar_srg, ar_sal, ar_srowl, ar_s1, ar_s2, rg_s1, rg_s2]
        all_goals try (first | exact m1 | exact m2 | exact m3 | exact m4 | exact m5 | exact m6 | exact (mS k hk).1 | exact (mS k hk).2.1 | exact (mS k hk).2.2.1 | exact (mS k hk).2.2.2.1 | exact (mS k hk).2.2.2.2 j hj | exact mT i hi | exact (mZ i hi).1 | exact (mZ i hi).2 | exact (mW h0).1 | exact (mW h0).2 i hi)
        rfl
    · refine ⟨-2, σ, σ, A, ?_, ?_, hI⟩
      · simp (disch := omega) only [↓nm_eq, gd_t, bd_s, bd2_s, l_0, l_1, l_2, l_3, l_4, l_5, l_6, l_7, l_8, l_9, l_10, l_11, l_12, l_13, l_14, l_15, l_16, l_17, l_18, l_19, l_20, l_21, l_22, l_23, l_24, l_25, l_31, l_32, l_33, l_38, l_40, l_41, l_48, l_51, l_57, l_59, l_60, l_61, l_63, l_87, l_94, l_97, l_99, l_100, l_101, l_102, l_115, l_124, l_127, l_128, l_140, l_201, l_206, l_300, l_906, l_999, l_9999, l_1000000, l_252645135, l_858993459, l_1000000000, l_1431655765, nI_add, pk_mul, nI_clamp, inb_nI, ilt_T, ilt_F, ile_T, ile_F, ieq_T, ieq_F, nbz_0, nbz_1, rg_sar, ar_srg, ar_s1, ar_s2, rg_s1, rg_s2, neg_1, neg_2, ↓reduceIte, true_and, and_true, and_self, ite_true, ite_false]
      · simp (disch := omega) only [↓nm_eq, gd_t, bd_s, bd2_s, l_0, l_1, l_2, l_3, l_4, l_5, l_6, l_7, l_8, l_9, l_10, l_11, l_12, l_13, l_14, l_15, l_16, l_17, l_18, l_19, l_20, l_21, l_22, l_23, l_24, l_25, l_31, l_32, l_33, l_38, l_40, l_41, l_48, l_51, l_57, l_59, l_60, l_61, l_63, l_87, l_94, l_97, l_99, l_100, l_101, l_102, l_115, l_124, l_127, l_128, l_140, l_201, l_206, l_300, l_906, l_999, l_9999, l_1000000, l_252645135, l_858993459, l_1000000000, l_1431655765, nI_add, pk_mul, nI_clamp, inb_nI, ilt_T, ilt_F, ile_T, ile_F, ieq_T, ieq_F, nbz_0, nbz_1, rg_sar, ar_srg, ar_s1, ar_s2, rg_s1, rg_s2, neg_1, neg_2, ↓reduceIte, true_and, and_true, and_self, ite_true, ite_false, x_in_T, x_in_F]
theorem op_feed {N : Nat} {σ : Sg} {A : Ab} (hI : Inv A σ) (x : Int32) : Ok2 (f_X6_feed N x) (f_X7_feed N x) σ := by
  obtain ⟨⟨hS7, hD99, hT100, hW5, hZ7⟩, hAS, hAT, hAZ, hAW, hAW0⟩ := id hI.1
  obtain ⟨-, hC, hM, hK, r, hr, r1, r2, r3⟩ := id hI
  obtain ⟨⟨c1, c2, c3, c4, c5⟩, cS, cT, cZ, cW⟩ := id hC
  obtain ⟨⟨m1, m2, m3, m4, m5, m6⟩, mS, mT, mZ, mW⟩ := id hM
  unfold f_X6_feed f_X7_feed
  rcases i_cases x with h | ⟨n, hn, rfl⟩
  · refine ⟨-2, σ, σ, A, ?_, ?_, hI⟩
    · dsimp only
      rw [if_pos (show x < 0 from h)]
    · simp (disch := omega) only [↓nm_eq, gd_t, bd_s, bd2_s, l_0, l_1, l_2, l_3, l_4, l_5, l_6, l_7, l_8, l_9, l_10, l_11, l_12, l_13, l_14, l_15, l_16, l_17, l_18, l_19, l_20, l_21, l_22, l_23, l_24, l_25, l_31, l_32, l_33, l_38, l_40, l_41, l_48, l_51, l_57, l_59, l_60, l_61, l_63, l_87, l_94, l_97, l_99, l_100, l_101, l_102, l_115, l_124, l_127, l_128, l_140, l_201, l_206, l_300, l_906, l_999, l_9999, l_1000000, l_252645135, l_858993459, l_1000000000, l_1431655765, nI_add, pk_mul, nI_clamp, inb_nI, ilt_T, ilt_F, ile_T, ile_F, ieq_T, ieq_F, nbz_0, nbz_1, rg_sar, ar_srg, ar_s1, ar_s2, rg_s1, rg_s2, neg_1, neg_2, ↓reduceIte, true_and, and_true, and_self, ite_true, ite_false, x_in_lo h]
  · by_cases h99 : n ≤ 127
    · by_cases hT : aT A < 100
      · refine ⟨nI (aT A + 1), srg (sar σ 15 (aT A) (nI n)) 1 7 (nI (aT A + 1)), sar (sar (srg (sar σ 15 (aT A) (nI n)) 1 7 (nI (aT A + 1))) 61 (101 + aT A) (nI n)) 61 3 (nI (aT A + 1)), ((aS A, aD A, aT A + 1, aW A, aZ A), kd A, vv A, ii A, oo A, ld A, (fun i => if i = aT A then n else tp A i), ti A, tu A, tw A), ?_, ?_, ?_⟩
        · simp (disch := omega) only [↓nm_eq, gd_t, bd_s, bd2_s, l_0, l_1, l_2, l_3, l_4, l_5, l_6, l_7, l_8, l_9, l_10, l_11, l_12, l_13, l_14, l_15, l_16, l_17, l_18, l_19, l_20, l_21, l_22, l_23, l_24, l_25, l_31, l_32, l_33, l_38, l_40, l_41, l_48, l_51, l_57, l_59, l_60, l_61, l_63, l_87, l_94, l_97, l_99, l_100, l_101, l_102, l_115, l_124, l_127, l_128, l_140, l_201, l_206, l_300, l_906, l_999, l_9999, l_1000000, l_252645135, l_858993459, l_1000000000, l_1431655765, nI_add, pk_mul, nI_clamp, inb_nI, ilt_T, ilt_F, ile_T, ile_F, ieq_T, ieq_F, nbz_0, nbz_1, rg_sar, ar_srg, ar_s1, ar_s2, rg_s1, rg_s2, neg_1, neg_2, ↓reduceIte, true_and, and_true, and_self, ite_true, ite_false, c3]
        · simp (disch := omega) only [↓nm_eq, gd_t, bd_s, bd2_s, l_0, l_1, l_2, l_3, l_4, l_5, l_6, l_7, l_8, l_9, l_10, l_11, l_12, l_13, l_14, l_15, l_16, l_17, l_18, l_19, l_20, l_21, l_22, l_23, l_24, l_25, l_31, l_32, l_33, l_38, l_40, l_41, l_48, l_51, l_57, l_59, l_60, l_61, l_63, l_87, l_94, l_97, l_99, l_100, l_101, l_102, l_115, l_124, l_127, l_128, l_140, l_201, l_206, l_300, l_906, l_999, l_9999, l_1000000, l_252645135, l_858993459, l_1000000000, l_1431655765, nI_add, pk_mul, nI_clamp, inb_nI, ilt_T, ilt_F, ile_T, ile_F, ieq_T, ieq_F, nbz_0, nbz_1, rg_sar, ar_srg, ar_s1, ar_s2, rg_s1, rg_s2, neg_1, neg_2, ↓reduceIte, true_and, and_true, and_self, ite_true, ite_false, x_in_T, m3]
        · refine hI.upd ⟨⟨hS7, hD99, by show aT A + 1 ≤ 100; omega, hW5, hZ7⟩, hAS, fun i hi => ?_, hAZ, hAW, hAW0⟩ ⟨⟨c1, c2, rfl, c4, c5⟩, fun k hk => ?_, fun i hi => ?_, fun i hi => ?_, cW.same rfl rfl (fun k hk => ?_)⟩ ?_ (((((Sk.rf σ).sar _ _ rfl).srg _ rfl).sar _ _ rfl).sar _ _ rfl)
          · show (if i = aT A then n else tp A i) < 128
            split
            · omega
            · exact hAT i (by have : i < aT A + 1 := hi; omega)
          · simp (disch := omega) only [rg_sar, rg_sal, rg_srow, rg_srowl, ar_srg, ar_sal, ar_srowl, ar_s1, ar_s2, rg_s1, rg_s2]
            exact cS k hk
          · have hi' : i < aT A + 1 := hi
            show _ = nI (if i = aT A then n else tp A i)
            by_cases e : i = aT A
            · rw [if_pos e]
              simp (disch := omega) only [rg_sar, rg_sal, rg_srow, rg_srowl, ar_srg, ar_sal, ar_srowl, ar_s1, ar_s2, rg_s1, rg_s2]
            · rw [if_neg e]
              simp (disch := omega) only [rg_sar, rg_sal, rg_srow, rg_srowl, ar_srg, ar_sal, ar_srowl, ar_s1, ar_s2, rg_s1, rg_s2]
              exact cT i (by omega)
          · simp (disch := omega) only [rg_sar, rg_sal, rg_srow, rg_srowl, ar_srg, ar_sal, ar_srowl, ar_s1, ar_s2, rg_s1, rg_s2]
            exact cZ i hi
          · rw [ar_sar_ne (by omega), ar_sar_ne (by omega), ar_srg, ar_sar_ne (by omega)]
          · refine ⟨⟨?_, ?_, ?_, ?_, ?_, ?_⟩, fun k hk => ⟨?_, ?_, ?_, ?_, fun j hj => ?_⟩, fun i hi => ?_, fun i hi => ⟨?_, ?_⟩, fun h0 => ⟨?_, fun i hi => ?_⟩⟩
            case refine_12 =>
              have hi' : i < aT A + 1 := hi
              show _ = nI (if i = aT A then n else tp A i)
              by_cases e : i = aT A
              · rw [if_pos e]
                simp (disch := omega) only [rg_sar, rg_sal, rg_srow, rg_srowl, ar_srg, ar_sal, ar_srowl, ar_s1, ar_s2, rg_s1, rg_s2]
              · rw [if_neg e]
                simp (disch := omega) only [rg_sar, rg_sal, rg_srow, rg_srowl, ar_srg, ar_sal, ar_srowl, ar_s1, ar_s2, rg_s1, rg_s2]
                exact mT i (by omega)
            all_goals try have hk' : k < aS A := hk
            all_goals try have hj' : j < aS A := hj
            all_goals try have hi' : i < aZ A := hi
            all_goals simp (disch := omega) only [rg_sar, rg_sal, rg_srow, rg_srowl, ar_srg, ar_sal, ar_srowl, ar_s1, ar_s2, rg_s1, rg_s2]
            all_goals try (first | exact m1 | exact m2 | exact m3 | exact m4 | exact m5 | exact m6 | exact (mS k hk).1 | exact (mS k hk).2.1 | exact (mS k hk).2.2.1 | exact (mS k hk).2.2.2.1 | exact (mS k hk).2.2.2.2 j hj | exact mT i hi | exact (mZ i hi).1 | exact (mZ i hi).2 | exact (mW h0).1 | exact (mW h0).2 i hi)
            rfl
      · refine ⟨-4, σ, σ, A, ?_, ?_, hI⟩
        · simp (disch := omega) only [↓nm_eq, gd_t, bd_s, bd2_s, l_0, l_1, l_2, l_3, l_4, l_5, l_6, l_7, l_8, l_9, l_10, l_11, l_12, l_13, l_14, l_15, l_16, l_17, l_18, l_19, l_20, l_21, l_22, l_23, l_24, l_25, l_31, l_32, l_33, l_38, l_40, l_41, l_48, l_51, l_57, l_59, l_60, l_61, l_63, l_87, l_94, l_97, l_99, l_100, l_101, l_102, l_115, l_124, l_127, l_128, l_140, l_201, l_206, l_300, l_906, l_999, l_9999, l_1000000, l_252645135, l_858993459, l_1000000000, l_1431655765, nI_add, pk_mul, nI_clamp, inb_nI, ilt_T, ilt_F, ile_T, ile_F, ieq_T, ieq_F, nbz_0, nbz_1, rg_sar, ar_srg, ar_s1, ar_s2, rg_s1, rg_s2, neg_1, neg_2, ↓reduceIte, true_and, and_true, and_self, ite_true, ite_false, c3]
        · simp (disch := omega) only [↓nm_eq, gd_t, bd_s, bd2_s, l_0, l_1, l_2, l_3, l_4, l_5, l_6, l_7, l_8, l_9, l_10, l_11, l_12, l_13, l_14, l_15, l_16, l_17, l_18, l_19, l_20, l_21, l_22, l_23, l_24, l_25, l_31, l_32, l_33, l_38, l_40, l_41, l_48, l_51, l_57, l_59, l_60, l_61, l_63, l_87, l_94, l_97, l_99, l_100, l_101, l_102, l_115, l_124, l_127, l_128, l_140, l_201, l_206, l_300, l_906, l_999, l_9999, l_1000000, l_252645135, l_858993459, l_1000000000, l_1431655765, nI_add, pk_mul, nI_clamp, inb_nI, ilt_T, ilt_F, ile_T, ile_F, ieq_T, ieq_F, nbz_0, nbz_1, rg_sar, ar_srg, ar_s1, ar_s2, rg_s1, rg_s2, neg_1, neg_2, ↓reduceIte, true_and, and_true, and_self, ite_true, ite_false, x_in_T, x_in_F, m3]
    · refine ⟨-2, σ, σ, A, ?_, ?_, hI⟩
      · simp (disch := omega) only [↓nm_eq, gd_t, bd_s, bd2_s, l_0, l_1, l_2, l_3, l_4, l_5, l_6, l_7, l_8, l_9, l_10, l_11, l_12, l_13, l_14, l_15, l_16, l_17, l_18, l_19, l_20, l_21, l_22, l_23, l_24, l_25, l_31, l_32, l_33, l_38, l_40, l_41, l_48, l_51, l_57, l_59, l_60, l_61, l_63, l_87, l_94, l_97, l_99, l_100, l_101, l_102, l_115, l_124, l_127, l_128, l_140, l_201, l_206, l_300, l_906, l_999, l_9999, l_1000000, l_252645135, l_858993459, l_1000000000, l_1431655765, nI_add, pk_mul, nI_clamp, inb_nI, ilt_T, ilt_F, ile_T, ile_F, ieq_T, ieq_F, nbz_0, nbz_1, rg_sar, ar_srg, ar_s1, ar_s2, rg_s1, rg_s2, neg_1, neg_2, ↓reduceIte, true_and, and_true, and_self, ite_true, ite_false]
      · simp (disch := omega) only [↓nm_eq, gd_t, bd_s, bd2_s, l_0, l_1, l_2, l_3, l_4, l_5, l_6, l_7, l_8, l_9, l_10, l_11, l_12, l_13, l_14, l_15, l_16, l_17, l_18, l_19, l_20, l_21, l_22, l_23, l_24, l_25, l_31, l_32, l_33, l_38, l_40, l_41, l_48, l_51, l_57, l_59, l_60, l_61, l_63, l_87, l_94, l_97, l_99, l_100, l_101, l_102, l_115, l_124, l_127, l_128, l_140, l_201, l_206, l_300, l_906, l_999, l_9999, l_1000000, l_252645135, l_858993459, l_1000000000, l_1431655765, nI_add, pk_mul, nI_clamp, inb_nI, ilt_T, ilt_F, ile_T, ile_F, ieq_T, ieq_F, nbz_0, nbz_1, rg_sar, ar_srg, ar_s1, ar_s2, rg_s1, rg_s2, neg_1, neg_2, ↓reduceIte, true_and, and_true, and_self, ite_true, ite_false, x_in_T, x_in_F]
theorem bit_1 : ∀ n, n < 128 → ∀ j, j < 7 → (nI n >>> (nI j &&& nI 31)) &&& nI 1 = if n.testBit j then nI 1 else nI 0 := by decide +kernel
theorem bit_2 : ∀ n, n < 128 → ∀ j, j < 7 → nI n ||| (nI 1 <<< (nI j &&& nI 31)) = nI (n ||| 2 ^ j) := by decide +kernel
theorem bit_3 : ∀ n, n < 128 → ∀ j, j < 7 → nI n &&& ((nI 1 <<< (nI j &&& nI 31)) ^^^ -nI 1) = nI (n &&& (127 ^^^ 2 ^ j)) := by decide +kernel
theorem bit_4 : ∀ n, n < 128 → ∀ j, j < 7 → ∀ i, i < 7 → (n ||| 2 ^ j).testBit i = (n.testBit i || decide (i = j)) := by decide +kernel
theorem bit_5 : ∀ n, n < 128 → ∀ j, j < 7 → ∀ i, i < 7 → (n &&& (127 ^^^ 2 ^ j)).testBit i = (n.testBit i && !decide (i = j)) := by decide +kernel
theorem p2_le {S n : Nat} (hS : S ≤ 7) (h : n < 2 ^ S) : n < 128 := Nat.lt_of_lt_of_le h (Nat.pow_le_pow_right (by decide) hS)
theorem op_tally {N : Nat} {σ : Sg} {A : Ab} (hI : Inv A σ) (x y z : Int32) : Ok2 (f_X6_tally N x y z) (f_X7_tally N x y z) σ := by
  obtain ⟨⟨hS7, hD99, hT100, hW5, hZ7⟩, hAS, hAT, hAZ, hAW, hAW0⟩ := id hI.1
  obtain ⟨-, hC, hM, hK, r, hr, r1, r2, r3⟩ := id hI
  obtain ⟨⟨c1, c2, c3, c4, c5⟩, cS, cT, cZ, cW⟩ := id hC
  obtain ⟨⟨m1, m2, m3, m4, m5, m6⟩, mS, mT, mZ, mW⟩ := id hM
  unfold f_X6_tally f_X7_tally b_X6_tally_57 b_X6_tally_57_1 b_X7_tally_44
  rcases i_cases x with h | ⟨s, hs, rfl⟩
  · refine ⟨-1, σ, σ, A, ?_, ?_, hI⟩
    · simp (disch := omega) only [↓nm_eq, gd_t, bd_s, bd2_s, l_0, l_1, l_2, l_3, l_4, l_5, l_6, l_7, l_8, l_9, l_10, l_11, l_12, l_13, l_14, l_15, l_16, l_17, l_18, l_19, l_20, l_21, l_22, l_23, l_24, l_25, l_31, l_32, l_33, l_38, l_40, l_41, l_48, l_51, l_57, l_59, l_60, l_61, l_63, l_87, l_94, l_97, l_99, l_100, l_101, l_102, l_115, l_124, l_127, l_128, l_140, l_201, l_206, l_300, l_906, l_999, l_9999, l_1000000, l_252645135, l_858993459, l_1000000000, l_1431655765, nI_add, pk_mul, nI_clamp, inb_nI, ilt_T, ilt_F, ile_T, ile_F, ieq_T, ieq_F, nbz_0, nbz_1, rg_sar, ar_srg, ar_s1, ar_s2, rg_s1, rg_s2, neg_1, neg_2, ↓reduceIte, true_and, and_true, and_self, ite_true, ite_false, x_has_lo h]
    · simp (disch := omega) only [↓nm_eq, gd_t, bd_s, bd2_s, l_0, l_1, l_2, l_3, l_4, l_5, l_6, l_7, l_8, l_9, l_10, l_11, l_12, l_13, l_14, l_15, l_16, l_17, l_18, l_19, l_20, l_21, l_22, l_23, l_24, l_25, l_31, l_32, l_33, l_38, l_40, l_41, l_48, l_51, l_57, l_59, l_60, l_61, l_63, l_87, l_94, l_97, l_99, l_100, l_101, l_102, l_115, l_124, l_127, l_128, l_140, l_201, l_206, l_300, l_906, l_999, l_9999, l_1000000, l_252645135, l_858993459, l_1000000000, l_1431655765, nI_add, pk_mul, nI_clamp, inb_nI, ilt_T, ilt_F, ile_T, ile_F, ieq_T, ieq_F, nbz_0, nbz_1, rg_sar, ar_srg, ar_s1, ar_s2, rg_s1, rg_s2, neg_1, neg_2, ↓reduceIte, true_and, and_true, and_self, ite_true, ite_false, x_isS_lo h]
  by_cases hsS : aS A ≤ s
  · refine ⟨-1, σ, σ, A, ?_, ?_, hI⟩
    · simp (disch := omega) only [↓nm_eq, gd_t, bd_s, bd2_s, l_0, l_1, l_2, l_3, l_4, l_5, l_6, l_7, l_8, l_9, l_10, l_11, l_12, l_13, l_14, l_15, l_16, l_17, l_18, l_19, l_20, l_21, l_22, l_23, l_24, l_25, l_31, l_32, l_33, l_38, l_40, l_41, l_48, l_51, l_57, l_59, l_60, l_61, l_63, l_87, l_94, l_97, l_99, l_100, l_101, l_102, l_115, l_124, l_127, l_128, l_140, l_201, l_206, l_300, l_906, l_999, l_9999, l_1000000, l_252645135, l_858993459, l_1000000000, l_1431655765, nI_add, pk_mul, nI_clamp, inb_nI, ilt_T, ilt_F, ile_T, ile_F, ieq_T, ieq_F, nbz_0, nbz_1, rg_sar, ar_srg, ar_s1, ar_s2, rg_s1, rg_s2, neg_1, neg_2, ↓reduceIte, true_and, and_true, and_self, ite_true, ite_false, x_has_F c1 hS7]
    · simp (disch := omega) only [↓nm_eq, gd_t, bd_s, bd2_s, l_0, l_1, l_2, l_3, l_4, l_5, l_6, l_7, l_8, l_9, l_10, l_11, l_12, l_13, l_14, l_15, l_16, l_17, l_18, l_19, l_20, l_21, l_22, l_23, l_24, l_25, l_31, l_32, l_33, l_38, l_40, l_41, l_48, l_51, l_57, l_59, l_60, l_61, l_63, l_87, l_94, l_97, l_99, l_100, l_101, l_102, l_115, l_124, l_127, l_128, l_140, l_201, l_206, l_300, l_906, l_999, l_9999, l_1000000, l_252645135, l_858993459, l_1000000000, l_1431655765, nI_add, pk_mul, nI_clamp, inb_nI, ilt_T, ilt_F, ile_T, ile_F, ieq_T, ieq_F, nbz_0, nbz_1, rg_sar, ar_srg, ar_s1, ar_s2, rg_s1, rg_s2, neg_1, neg_2, ↓reduceIte, true_and, and_true, and_self, ite_true, ite_false, x_isS_F m1 hS7]
  have hsS' : s < aS A := by omega
  rcases i_cases y with h | ⟨w, hw, rfl⟩
  · refine ⟨-1, σ, σ, A, ?_, ?_, hI⟩
    · simp (disch := omega) only [↓nm_eq, gd_t, bd_s, bd2_s, l_0, l_1, l_2, l_3, l_4, l_5, l_6, l_7, l_8, l_9, l_10, l_11, l_12, l_13, l_14, l_15, l_16, l_17, l_18, l_19, l_20, l_21, l_22, l_23, l_24, l_25, l_31, l_32, l_33, l_38, l_40, l_41, l_48, l_51, l_57, l_59, l_60, l_61, l_63, l_87, l_94, l_97, l_99, l_100, l_101, l_102, l_115, l_124, l_127, l_128, l_140, l_201, l_206, l_300, l_906, l_999, l_9999, l_1000000, l_252645135, l_858993459, l_1000000000, l_1431655765, nI_add, pk_mul, nI_clamp, inb_nI, ilt_T, ilt_F, ile_T, ile_F, ieq_T, ieq_F, nbz_0, nbz_1, rg_sar, ar_srg, ar_s1, ar_s2, rg_s1, rg_s2, neg_1, neg_2, ↓reduceIte, true_and, and_true, and_self, ite_true, ite_false, x_has_T c1 hS7, eq_true h]
    · simp (disch := omega) only [↓nm_eq, gd_t, bd_s, bd2_s, l_0, l_1, l_2, l_3, l_4, l_5, l_6, l_7, l_8, l_9, l_10, l_11, l_12, l_13, l_14, l_15, l_16, l_17, l_18, l_19, l_20, l_21, l_22, l_23, l_24, l_25, l_31, l_32, l_33, l_38, l_40, l_41, l_48, l_51, l_57, l_59, l_60, l_61, l_63, l_87, l_94, l_97, l_99, l_100, l_101, l_102, l_115, l_124, l_127, l_128, l_140, l_201, l_206, l_300, l_906, l_999, l_9999, l_1000000, l_252645135, l_858993459, l_1000000000, l_1431655765, nI_add, pk_mul, nI_clamp, inb_nI, ilt_T, ilt_F, ile_T, ile_F, ieq_T, ieq_F, nbz_0, nbz_1, rg_sar, ar_srg, ar_s1, ar_s2, rg_s1, rg_s2, neg_1, neg_2, ↓reduceIte, true_and, and_true, and_self, ite_true, ite_false, x_isS_T m1 hS7, x_in_lo h]
  by_cases hw1 : 1 < w
  · refine ⟨-1, σ, σ, A, ?_, ?_, hI⟩
    · simp (disch := omega) only [↓nm_eq, gd_t, bd_s, bd2_s, l_0, l_1, l_2, l_3, l_4, l_5, l_6, l_7, l_8, l_9, l_10, l_11, l_12, l_13, l_14, l_15, l_16, l_17, l_18, l_19, l_20, l_21, l_22, l_23, l_24, l_25, l_31, l_32, l_33, l_38, l_40, l_41, l_48, l_51, l_57, l_59, l_60, l_61, l_63, l_87, l_94, l_97, l_99, l_100, l_101, l_102, l_115, l_124, l_127, l_128, l_140, l_201, l_206, l_300, l_906, l_999, l_9999, l_1000000, l_252645135, l_858993459, l_1000000000, l_1431655765, nI_add, pk_mul, nI_clamp, inb_nI, ilt_T, ilt_F, ile_T, ile_F, ieq_T, ieq_F, nbz_0, nbz_1, rg_sar, ar_srg, ar_s1, ar_s2, rg_s1, rg_s2, neg_1, neg_2, ↓reduceIte, true_and, and_true, and_self, ite_true, ite_false, x_has_T c1 hS7]
    · simp (disch := omega) only [↓nm_eq, gd_t, bd_s, bd2_s, l_0, l_1, l_2, l_3, l_4, l_5, l_6, l_7, l_8, l_9, l_10, l_11, l_12, l_13, l_14, l_15, l_16, l_17, l_18, l_19, l_20, l_21, l_22, l_23, l_24, l_25, l_31, l_32, l_33, l_38, l_40, l_41, l_48, l_51, l_57, l_59, l_60, l_61, l_63, l_87, l_94, l_97, l_99, l_100, l_101, l_102, l_115, l_124, l_127, l_128, l_140, l_201, l_206, l_300, l_906, l_999, l_9999, l_1000000, l_252645135, l_858993459, l_1000000000, l_1431655765, nI_add, pk_mul, nI_clamp, inb_nI, ilt_T, ilt_F, ile_T, ile_F, ieq_T, ieq_F, nbz_0, nbz_1, rg_sar, ar_srg, ar_s1, ar_s2, rg_s1, rg_s2, neg_1, neg_2, ↓reduceIte, true_and, and_true, and_self, ite_true, ite_false, x_isS_T m1 hS7, x_in_F]
  rcases i_cases z with h | ⟨n, hn, rfl⟩
  · refine ⟨-2, σ, σ, A, ?_, ?_, hI⟩
    · simp (disch := omega) only [↓nm_eq, gd_t, bd_s, bd2_s, l_0, l_1, l_2, l_3, l_4, l_5, l_6, l_7, l_8, l_9, l_10, l_11, l_12, l_13, l_14, l_15, l_16, l_17, l_18, l_19, l_20, l_21, l_22, l_23, l_24, l_25, l_31, l_32, l_33, l_38, l_40, l_41, l_48, l_51, l_57, l_59, l_60, l_61, l_63, l_87, l_94, l_97, l_99, l_100, l_101, l_102, l_115, l_124, l_127, l_128, l_140, l_201, l_206, l_300, l_906, l_999, l_9999, l_1000000, l_252645135, l_858993459, l_1000000000, l_1431655765, nI_add, pk_mul, nI_clamp, inb_nI, ilt_T, ilt_F, ile_T, ile_F, ieq_T, ieq_F, nbz_0, nbz_1, rg_sar, ar_srg, ar_s1, ar_s2, rg_s1, rg_s2, neg_1, neg_2, ↓reduceIte, true_and, and_true, and_self, ite_true, ite_false, x_has_T c1 hS7, eq_true h]
    · simp (disch := omega) only [↓nm_eq, gd_t, bd_s, bd2_s, l_0, l_1, l_2, l_3, l_4, l_5, l_6, l_7, l_8, l_9, l_10, l_11, l_12, l_13, l_14, l_15, l_16, l_17, l_18, l_19, l_20, l_21, l_22, l_23, l_24, l_25, l_31, l_32, l_33, l_38, l_40, l_41, l_48, l_51, l_57, l_59, l_60, l_61, l_63, l_87, l_94, l_97, l_99, l_100, l_101, l_102, l_115, l_124, l_127, l_128, l_140, l_201, l_206, l_300, l_906, l_999, l_9999, l_1000000, l_252645135, l_858993459, l_1000000000, l_1431655765, nI_add, pk_mul, nI_clamp, inb_nI, ilt_T, ilt_F, ile_T, ile_F, ieq_T, ieq_F, nbz_0, nbz_1, rg_sar, ar_srg, ar_s1, ar_s2, rg_s1, rg_s2, neg_1, neg_2, ↓reduceIte, true_and, and_true, and_self, ite_true, ite_false, x_isS_T m1 hS7, x_in_T, x_in_lo h]
  by_cases hn1 : 9999 < n
  · refine ⟨-2, σ, σ, A, ?_, ?_, hI⟩
    · simp (disch := omega) only [↓nm_eq, gd_t, bd_s, bd2_s, l_0, l_1, l_2, l_3, l_4, l_5, l_6, l_7, l_8, l_9, l_10, l_11, l_12, l_13, l_14, l_15, l_16, l_17, l_18, l_19, l_20, l_21, l_22, l_23, l_24, l_25, l_31, l_32, l_33, l_38, l_40, l_41, l_48, l_51, l_57, l_59, l_60, l_61, l_63, l_87, l_94, l_97, l_99, l_100, l_101, l_102, l_115, l_124, l_127, l_128, l_140, l_201, l_206, l_300, l_906, l_999, l_9999, l_1000000, l_252645135, l_858993459, l_1000000000, l_1431655765, nI_add, pk_mul, nI_clamp, inb_nI, ilt_T, ilt_F, ile_T, ile_F, ieq_T, ieq_F, nbz_0, nbz_1, rg_sar, ar_srg, ar_s1, ar_s2, rg_s1, rg_s2, neg_1, neg_2, ↓reduceIte, true_and, and_true, and_self, ite_true, ite_false, x_has_T c1 hS7]
    · simp (disch := omega) only [↓nm_eq, gd_t, bd_s, bd2_s, l_0, l_1, l_2, l_3, l_4, l_5, l_6, l_7, l_8, l_9, l_10, l_11, l_12, l_13, l_14, l_15, l_16, l_17, l_18, l_19, l_20, l_21, l_22, l_23, l_24, l_25, l_31, l_32, l_33, l_38, l_40, l_41, l_48, l_51, l_57, l_59, l_60, l_61, l_63, l_87, l_94, l_97, l_99, l_100, l_101, l_102, l_115, l_124, l_127, l_128, l_140, l_201, l_206, l_300, l_906, l_999, l_9999, l_1000000, l_252645135, l_858993459, l_1000000000, l_1431655765, nI_add, pk_mul, nI_clamp, inb_nI, ilt_T, ilt_F, ile_T, ile_F, ieq_T, ieq_F, nbz_0, nbz_1, rg_sar, ar_srg, ar_s1, ar_s2, rg_s1, rg_s2, neg_1, neg_2, ↓reduceIte, true_and, and_true, and_self, ite_true, ite_false, x_isS_T m1 hS7, x_in_T, x_in_F]
  obtain ⟨d1, d2, d3, d4, d5⟩ := cS s hsS'
  obtain ⟨e1, e2, e3, e4, e5⟩ := mS s hsS'
  rcases (show w = 0 ∨ w = 1 by omega) with rfl | rfl
  · refine ⟨nI (ii A s), sar σ 12 s (nI n), sar (sar σ 12 s (nI n)) 61 (24 + s) (nI n), (A.1, kd A, vv A, (fun i => if i = s then n else ii A i), oo A, ld A, tp A, ti A, tu A, tw A), ?_, ?_, ?_⟩
    · simp (disch := omega) only [↓nm_eq, gd_t, bd_s, bd2_s, l_0, l_1, l_2, l_3, l_4, l_5, l_6, l_7, l_8, l_9, l_10, l_11, l_12, l_13, l_14, l_15, l_16, l_17, l_18, l_19, l_20, l_21, l_22, l_23, l_24, l_25, l_31, l_32, l_33, l_38, l_40, l_41, l_48, l_51, l_57, l_59, l_60, l_61, l_63, l_87, l_94, l_97, l_99, l_100, l_101, l_102, l_115, l_124, l_127, l_128, l_140, l_201, l_206, l_300, l_906, l_999, l_9999, l_1000000, l_252645135, l_858993459, l_1000000000, l_1431655765, nI_add, pk_mul, nI_clamp, inb_nI, ilt_T, ilt_F, ile_T, ile_F, ieq_T, ieq_F, nbz_0, nbz_1, rg_sar, ar_srg, ar_s1, ar_s2, rg_s1, rg_s2, neg_1, neg_2, ↓reduceIte, true_and, and_true, and_self, ite_true, ite_false, x_has_T c1 hS7, d3]
    · have m1' : ar (sar σ 12 s (nI n)) 61 0 = nI (aS A) := m1
      have e' : ar (sar σ 12 s (nI n)) 61 (24 + s) = nI (ii A s) := e3
      simp (disch := omega) only [↓nm_eq, gd_t, bd_s, bd2_s, l_0, l_1, l_2, l_3, l_4, l_5, l_6, l_7, l_8, l_9, l_10, l_11, l_12, l_13, l_14, l_15, l_16, l_17, l_18, l_19, l_20, l_21, l_22, l_23, l_24, l_25, l_31, l_32, l_33, l_38, l_40, l_41, l_48, l_51, l_57, l_59, l_60, l_61, l_63, l_87, l_94, l_97, l_99, l_100, l_101, l_102, l_115, l_124, l_127, l_128, l_140, l_201, l_206, l_300, l_906, l_999, l_9999, l_1000000, l_252645135, l_858993459, l_1000000000, l_1431655765, nI_add, pk_mul, nI_clamp, inb_nI, ilt_T, ilt_F, ile_T, ile_F, ieq_T, ieq_F, nbz_0, nbz_1, rg_sar, ar_srg, ar_s1, ar_s2, rg_s1, rg_s2, neg_1, neg_2, ↓reduceIte, true_and, and_true, and_self, ite_true, ite_false, x_isS_T m1' hS7, x_in_T, e']
    · refine hI.upd ⟨⟨hS7, hD99, hT100, hW5, hZ7⟩, fun i hi => ?_, hAT, hAZ, hAW, hAW0⟩ ⟨⟨c1, c2, c3, c4, c5⟩, fun i hi => ?_, fun i hi => ?_, fun i hi => ?_, cW.same rfl rfl (fun k hk => ?_)⟩ ?_ (((Sk.rf σ).sar _ _ rfl).sar _ _ rfl)
      · obtain ⟨p1, p2, p3, p4, p5⟩ := hAS i hi
        refine ⟨p1, p2, ?_, ?_, p5⟩
        all_goals try assumption
        show (if i = s then n else ii A i) ≤ 9999
        split <;> omega
      · obtain ⟨p1, p2, p3, p4, p5⟩ := cS i hi
        refine ⟨?_, ?_, ?_, ?_, ?_⟩
        case refine_3 =>
          show _ = nI (if i = s then n else ii A i)
          by_cases e : i = s
          · rw [if_pos e]
            simp (disch := omega) only [rg_sar, rg_sal, rg_srow, rg_srowl, ar_srg, ar_sal, ar_srowl, ar_s1, ar_s2, rg_s1, rg_s2]
          · rw [if_neg e]
            simp (disch := omega) only [rg_sar, rg_sal, rg_srow, rg_srowl, ar_srg, ar_sal, ar_srowl, ar_s1, ar_s2, rg_s1, rg_s2]
            exact p3
        all_goals simp (disch := omega) only [rg_sar, rg_sal, rg_srow, rg_srowl, ar_srg, ar_sal, ar_srowl, ar_s1, ar_s2, rg_s1, rg_s2]
        all_goals assumption
      · simp (disch := omega) only [rg_sar, rg_sal, rg_srow, rg_srowl, ar_srg, ar_sal, ar_srowl, ar_s1, ar_s2, rg_s1, rg_s2]
        exact cT i hi
      · simp (disch := omega) only [rg_sar, rg_sal, rg_srow, rg_srowl, ar_srg, ar_sal, ar_srowl, ar_s1, ar_s2, rg_s1, rg_s2]
        exact cZ i hi
      · rw [ar_sar_ne (by omega), ar_sar_ne (by omega)]
      · refine ⟨⟨?_, ?_, ?_, ?_, ?_, ?_⟩, fun k hk => ⟨?_, ?_, ?_, ?_, fun j hj => ?_⟩, fun i hi => ?_, fun i hi => ⟨?_, ?_⟩, fun h0 => ⟨?_, fun i hi => ?_⟩⟩
        case refine_9 =>
          show _ = nI (if k = s then n else ii A k)
          by_cases e : k = s
          · rw [if_pos e]
            simp (disch := omega) only [rg_sar, rg_sal, rg_srow, rg_srowl, ar_srg, ar_sal, ar_srowl, ar_s1, ar_s2, rg_s1, rg_s2]
          · rw [if_neg e]
            simp (disch := omega) only [rg_sar, rg_sal, rg_srow, rg_srowl, ar_srg, ar_sal, ar_srowl, ar_s1, ar_s2, rg_s1, rg_s2]
            exact (mS k hk).2.2.1
        all_goals try have hk' : k < aS A := hk
        all_goals try have hj' : j < aS A := hj
        all_goals try have hi' : i < aZ A := hi
        all_goals simp (disch := omega) only [rg_sar, rg_sal, rg_srow, rg_srowl, ar_srg, ar_sal, ar_srowl, ar_s1, ar_s2, rg_s1, rg_s2]
        all_goals try (first | exact m1 | exact m2 | exact m3 | exact m4 | exact m5 | exact m6 | exact (mS k hk).1 | exact (mS k hk).2.1 | exact (mS k hk).2.2.1 | exact (mS k hk).2.2.2.1 | exact (mS k hk).2.2.2.2 j hj | exact mT i hi | exact (mZ i hi).1 | exact (mZ i hi).2 | exact (mW h0).1 | exact (mW h0).2 i hi)
  · refine ⟨nI (oo A s), sar σ 13 s (nI n), sar (sar σ 13 s (nI n)) 61 (31 + s) (nI n), (A.1, kd A, vv A, ii A, (fun i => if i = s then n else oo A i), ld A, tp A, ti A, tu A, tw A), ?_, ?_, ?_⟩
    · simp (disch := omega) only [↓nm_eq, gd_t, bd_s, bd2_s, l_0, l_1, l_2, l_3, l_4, l_5, l_6, l_7, l_8, l_9, l_10, l_11, l_12, l_13, l_14, l_15, l_16, l_17, l_18, l_19, l_20, l_21, l_22, l_23, l_24, l_25, l_31, l_32, l_33, l_38, l_40, l_41, l_48, l_51, l_57, l_59, l_60, l_61, l_63, l_87, l_94, l_97, l_99, l_100, l_101, l_102, l_115, l_124, l_127, l_128, l_140, l_201, l_206, l_300, l_906, l_999, l_9999, l_1000000, l_252645135, l_858993459, l_1000000000, l_1431655765, nI_add, pk_mul, nI_clamp, inb_nI, ilt_T, ilt_F, ile_T, ile_F, ieq_T, ieq_F, nbz_0, nbz_1, rg_sar, ar_srg, ar_s1, ar_s2, rg_s1, rg_s2, neg_1, neg_2, ↓reduceIte, true_and, and_true, and_self, ite_true, ite_false, x_has_T c1 hS7, d4]
    · have m1' : ar (sar σ 13 s (nI n)) 61 0 = nI (aS A) := m1
      have e' : ar (sar σ 13 s (nI n)) 61 (31 + s) = nI (oo A s) := e4
      simp (disch := omega) only [↓nm_eq, gd_t, bd_s, bd2_s, l_0, l_1, l_2, l_3, l_4, l_5, l_6, l_7, l_8, l_9, l_10, l_11, l_12, l_13, l_14, l_15, l_16, l_17, l_18, l_19, l_20, l_21, l_22, l_23, l_24, l_25, l_31, l_32, l_33, l_38, l_40, l_41, l_48, l_51, l_57, l_59, l_60, l_61, l_63, l_87, l_94, l_97, l_99, l_100, l_101, l_102, l_115, l_124, l_127, l_128, l_140, l_201, l_206, l_300, l_906, l_999, l_9999, l_1000000, l_252645135, l_858993459, l_1000000000, l_1431655765, nI_add, pk_mul, nI_clamp, inb_nI, ilt_T, ilt_F, ile_T, ile_F, ieq_T, ieq_F, nbz_0, nbz_1, rg_sar, ar_srg, ar_s1, ar_s2, rg_s1, rg_s2, neg_1, neg_2, ↓reduceIte, true_and, and_true, and_self, ite_true, ite_false, x_isS_T m1' hS7, x_in_T, e']
    · refine hI.upd ⟨⟨hS7, hD99, hT100, hW5, hZ7⟩, fun i hi => ?_, hAT, hAZ, hAW, hAW0⟩ ⟨⟨c1, c2, c3, c4, c5⟩, fun i hi => ?_, fun i hi => ?_, fun i hi => ?_, cW.same rfl rfl (fun k hk => ?_)⟩ ?_ (((Sk.rf σ).sar _ _ rfl).sar _ _ rfl)
      · obtain ⟨p1, p2, p3, p4, p5⟩ := hAS i hi
        refine ⟨p1, p2, ?_, ?_, p5⟩
        all_goals try assumption
        show (if i = s then n else oo A i) ≤ 9999
        split <;> omega
      · obtain ⟨p1, p2, p3, p4, p5⟩ := cS i hi
        refine ⟨?_, ?_, ?_, ?_, ?_⟩
        case refine_4 =>
          show _ = nI (if i = s then n else oo A i)
          by_cases e : i = s
          · rw [if_pos e]
            simp (disch := omega) only [rg_sar, rg_sal, rg_srow, rg_srowl, ar_srg, ar_sal, ar_srowl, ar_s1, ar_s2, rg_s1, rg_s2]
          · rw [if_neg e]
            simp (disch := omega) only [rg_sar, rg_sal, rg_srow, rg_srowl, ar_srg, ar_sal, ar_srowl, ar_s1, ar_s2, rg_s1, rg_s2]
            exact p4
        all_goals simp (disch := omega) only [rg_sar, rg_sal, rg_srow, rg_srowl, ar_srg, ar_sal, ar_srowl, ar_s1, ar_s2, rg_s1, rg_s2]
        all_goals assumption
      · simp (disch := omega) only [rg_sar, rg_sal, rg_srow, rg_srowl, ar_srg, ar_sal, ar_srowl, ar_s1, ar_s2, rg_s1, rg_s2]
        exact cT i hi
      · simp (disch := omega) only [rg_sar, rg_sal, rg_srow, rg_srowl, ar_srg, ar_sal, ar_srowl, ar_s1, ar_s2, rg_s1, rg_s2]
        exact cZ i hi
      · rw [ar_sar_ne (by omega), ar_sar_ne (by omega)]
      · refine ⟨⟨?_, ?_, ?_, ?_, ?_, ?_⟩, fun k hk => ⟨?_, ?_, ?_, ?_, fun j hj => ?_⟩, fun i hi => ?_, fun i hi => ⟨?_, ?_⟩, fun h0 => ⟨?_, fun i hi => ?_⟩⟩
        case refine_10 =>
          show _ = nI (if k = s then n else oo A k)
          by_cases e : k = s
          · rw [if_pos e]
            simp (disch := omega) only [rg_sar, rg_sal, rg_srow, rg_srowl, ar_srg, ar_sal, ar_srowl, ar_s1, ar_s2, rg_s1, rg_s2]
          · rw [if_neg e]
            simp (disch := omega) only [rg_sar, rg_sal, rg_srow, rg_srowl, ar_srg, ar_sal, ar_srowl, ar_s1, ar_s2, rg_s1, rg_s2]
            exact (mS k hk).2.2.2.1
        all_goals try have hk' : k < aS A := hk
        all_goals try have hj' : j < aS A := hj
        all_goals try have hi' : i < aZ A := hi
        all_goals simp (disch := omega) only [rg_sar, rg_sal, rg_srow, rg_srowl, ar_srg, ar_sal, ar_srowl, ar_s1, ar_s2, rg_s1, rg_s2]
        all_goals try (first | exact m1 | exact m2 | exact m3 | exact m4 | exact m5 | exact m6 | exact (mS k hk).1 | exact (mS k hk).2.1 | exact (mS k hk).2.2.1 | exact (mS k hk).2.2.2.1 | exact (mS k hk).2.2.2.2 j hj | exact mT i hi | exact (mZ i hi).1 | exact (mZ i hi).2 | exact (mW h0).1 | exact (mW h0).2 i hi)
theorem op_tell1 {N : Nat} {σ : Sg} {A : Ab} (hI : Inv A σ) (x y : Int32) (hx : x = -1) : Ok2 (f_X6_tell N x y) (f_X7_tell N x y) σ := by
  obtain ⟨⟨hS7, hD99, hT100, hW5, hZ7⟩, hAS, hAT, hAZ, hAW, hAW0⟩ := id hI.1
  obtain ⟨-, hC, hM, hK, r, hr, r1, r2, r3⟩ := id hI
  obtain ⟨⟨c1, c2, c3, c4, c5⟩, cS, cT, cZ, cW⟩ := id hC
  obtain ⟨⟨m1, m2, m3, m4, m5, m6⟩, mS, mT, mZ, mW⟩ := id hM
  unfold f_X6_tell f_X7_tell
  refine ⟨0, srg σ 1 11 0, sar (srg σ 1 11 0) 61 2 0, ((aS A, aD A, aT A, aW A, 0), A.2), ?_, ?_, ?_⟩
  · dsimp only
    rw [if_pos hx]
    simp (disch := omega) only [↓nm_eq, gd_t, bd_s, bd2_s, l_0, l_1, l_2, l_3, l_4, l_5, l_6, l_7, l_8, l_9, l_10, l_11, l_12, l_13, l_14, l_15, l_16, l_17, l_18, l_19, l_20, l_21, l_22, l_23, l_24, l_25, l_31, l_32, l_33, l_38, l_40, l_41, l_48, l_51, l_57, l_59, l_60, l_61, l_63, l_87, l_94, l_97, l_99, l_100, l_101, l_102, l_115, l_124, l_127, l_128, l_140, l_201, l_206, l_300, l_906, l_999, l_9999, l_1000000, l_252645135, l_858993459, l_1000000000, l_1431655765, nI_add, pk_mul, nI_clamp, inb_nI, ilt_T, ilt_F, ile_T, ile_F, ieq_T, ieq_F, nbz_0, nbz_1, rg_sar, ar_srg, ar_s1, ar_s2, rg_s1, rg_s2, neg_1, neg_2, ↓reduceIte, true_and, and_true, and_self, ite_true, ite_false]
  · dsimp only
    rw [if_pos hx]
    simp (disch := omega) only [↓nm_eq, gd_t, bd_s, bd2_s, l_0, l_1, l_2, l_3, l_4, l_5, l_6, l_7, l_8, l_9, l_10, l_11, l_12, l_13, l_14, l_15, l_16, l_17, l_18, l_19, l_20, l_21, l_22, l_23, l_24, l_25, l_31, l_32, l_33, l_38, l_40, l_41, l_48, l_51, l_57, l_59, l_60, l_61, l_63, l_87, l_94, l_97, l_99, l_100, l_101, l_102, l_115, l_124, l_127, l_128, l_140, l_201, l_206, l_300, l_906, l_999, l_9999, l_1000000, l_252645135, l_858993459, l_1000000000, l_1431655765, nI_add, pk_mul, nI_clamp, inb_nI, ilt_T, ilt_F, ile_T, ile_F, ieq_T, ieq_F, nbz_0, nbz_1, rg_sar, ar_srg, ar_s1, ar_s2, rg_s1, rg_s2, neg_1, neg_2, ↓reduceIte, true_and, and_true, and_self, ite_true, ite_false]
  · refine hI.upd ⟨⟨hS7, hD99, hT100, hW5, Nat.zero_le 7⟩, hAS, hAT, fun i hi => absurd hi (Nat.not_lt_zero i), hAW, hAW0⟩ ⟨⟨c1, c2, c3, c4, rfl⟩, cS, cT, fun i hi => absurd hi (Nat.not_lt_zero i), cW.same rfl rfl (fun k hk => ar_sar_ne (by omega))⟩ ?_ (((Sk.rf σ).srg _ rfl).sar _ _ rfl)
    refine ⟨⟨?_, ?_, ?_, ?_, ?_, ?_⟩, fun k hk => ⟨?_, ?_, ?_, ?_, fun j hj => ?_⟩, fun i hi => ?_, fun i hi => ⟨?_, ?_⟩, fun h0 => ⟨?_, fun i hi => ?_⟩⟩
    case refine_13 => exact absurd hi (Nat.not_lt_zero i)
    case refine_14 => exact absurd hi (Nat.not_lt_zero i)
    all_goals try have hk' : k < aS A := hk
    all_goals try have hj' : j < aS A := hj
    all_goals try have hi' : i < aT A := hi
    all_goals simp (disch := omega) only [rg_sar, rg_sal, rg_srow, rg_srowl, ar_srg, ar_sal, ar_srowl, ar_s1, ar_s2, rg_s1, rg_s2]
    all_goals try (first | exact m1 | exact m2 | exact m3 | exact m4 | exact m5 | exact m6 | exact (mS k hk).1 | exact (mS k hk).2.1 | exact (mS k hk).2.2.1 | exact (mS k hk).2.2.2.1 | exact (mS k hk).2.2.2.2 j hj | exact mT i hi | exact (mZ i hi).1 | exact (mZ i hi).2 | exact (mW h0).1 | exact (mW h0).2 i hi)
    exact l_0
theorem op_tell2 {N : Nat} {σ : Sg} {A : Ab} (hI : Inv A σ) (n w : Nat) (hn : n ≤ 999) (hw : w ≤ 999) (hx : ¬ nI n = -1) (hz : ¬ aZ A = 7) : Ok2 (f_X6_tell N (nI n) (nI w)) (f_X7_tell N (nI n) (nI w)) σ := by
  obtain ⟨⟨hS7, hD99, hT100, hW5, hZ7⟩, hAS, hAT, hAZ, hAW, hAW0⟩ := id hI.1
  obtain ⟨-, hC, hM, hK, r, hr, r1, r2, r3⟩ := id hI
  obtain ⟨⟨c1, c2, c3, c4, c5⟩, cS, cT, cZ, cW⟩ := id hC
  obtain ⟨⟨m1, m2, m3, m4, m5, m6⟩, mS, mT, mZ, mW⟩ := id hM
  unfold f_X6_tell f_X7_tell
  refine ⟨nI (aZ A + 1), srg (sar (sar σ 16 (aZ A) (nI n)) 17 (aZ A) (nI w)) 1 11 (nI (aZ A + 1)), sar (sar (sar (srg (sar (sar σ 16 (aZ A) (nI n)) 17 (aZ A) (nI w)) 1 11 (nI (aZ A + 1))) 61 (87 + aZ A) (nI n)) 61 (94 + aZ A) (nI w)) 61 2 (nI (aZ A + 1)), ((aS A, aD A, aT A, aW A, aZ A + 1), kd A, vv A, ii A, oo A, ld A, tp A, (fun i => if i = aZ A then n else ti A i), (fun i => if i = aZ A then w else tu A i), tw A), ?_, ?_, ?_⟩
  · dsimp only
    rw [if_neg hx]
    simp (disch := omega) only [↓nm_eq, gd_t, bd_s, bd2_s, l_0, l_1, l_2, l_3, l_4, l_5, l_6, l_7, l_8, l_9, l_10, l_11, l_12, l_13, l_14, l_15, l_16, l_17, l_18, l_19, l_20, l_21, l_22, l_23, l_24, l_25, l_31, l_32, l_33, l_38, l_40, l_41, l_48, l_51, l_57, l_59, l_60, l_61, l_63, l_87, l_94, l_97, l_99, l_100, l_101, l_102, l_115, l_124, l_127, l_128, l_140, l_201, l_206, l_300, l_906, l_999, l_9999, l_1000000, l_252645135, l_858993459, l_1000000000, l_1431655765, nI_add, pk_mul, nI_clamp, inb_nI, ilt_T, ilt_F, ile_T, ile_F, ieq_T, ieq_F, nbz_0, nbz_1, rg_sar, ar_srg, ar_s1, ar_s2, rg_s1, rg_s2, neg_1, neg_2, ↓reduceIte, true_and, and_true, and_self, ite_true, ite_false, c5]
  · dsimp only
    rw [if_neg hx]
    refine bd2_k (x_in_T (Nat.zero_le _) hn (by decide)) (if_F n10 ?_)
    refine bd2_k (x_in_T (Nat.zero_le _) hw (by decide)) (if_F n10 ?_)
    simp (disch := omega) only [↓nm_eq, gd_t, bd_s, bd2_s, l_0, l_1, l_2, l_3, l_4, l_5, l_6, l_7, l_8, l_9, l_10, l_11, l_12, l_13, l_14, l_15, l_16, l_17, l_18, l_19, l_20, l_21, l_22, l_23, l_24, l_25, l_31, l_32, l_33, l_38, l_40, l_41, l_48, l_51, l_57, l_59, l_60, l_61, l_63, l_87, l_94, l_97, l_99, l_100, l_101, l_102, l_115, l_124, l_127, l_128, l_140, l_201, l_206, l_300, l_906, l_999, l_9999, l_1000000, l_252645135, l_858993459, l_1000000000, l_1431655765, nI_add, pk_mul, nI_clamp, inb_nI, ilt_T, ilt_F, ile_T, ile_F, ieq_T, ieq_F, nbz_0, nbz_1, rg_sar, ar_srg, ar_s1, ar_s2, rg_s1, rg_s2, neg_1, neg_2, ↓reduceIte, true_and, and_true, and_self, ite_true, ite_false, m5]
  · refine hI.upd ⟨⟨hS7, hD99, hT100, hW5, by show aZ A + 1 ≤ 7; omega⟩, hAS, hAT, fun i hi => ?_, hAW, hAW0⟩ ⟨⟨c1, c2, c3, c4, rfl⟩, fun k hk => ?_, fun i hi => ?_, fun i hi => ?_, cW.same rfl rfl (fun k hk => ?_)⟩ ?_ ((((((Sk.rf σ).sar _ _ rfl).sar _ _ rfl).srg _ rfl).sar _ _ rfl).sar _ _ rfl |>.sar _ _ rfl)
    · have hi' : i < aZ A + 1 := hi
      show (if i = aZ A then n else ti A i) ≤ 999 ∧ (if i = aZ A then w else tu A i) ≤ 999
      by_cases e : i = aZ A
      · rw [if_pos e, if_pos e]
        omega
      · rw [if_neg e, if_neg e]
        exact hAZ i (by omega)
    · simp (disch := omega) only [rg_sar, rg_sal, rg_srow, rg_srowl, ar_srg, ar_sal, ar_srowl, ar_s1, ar_s2, rg_s1, rg_s2]
      exact cS k hk
    · simp (disch := omega) only [rg_sar, rg_sal, rg_srow, rg_srowl, ar_srg, ar_sal, ar_srowl, ar_s1, ar_s2, rg_s1, rg_s2]
      exact cT i hi
    · have hi' : i < aZ A + 1 := hi
      show _ = nI (if i = aZ A then n else ti A i) ∧ _ = nI (if i = aZ A then w else tu A i)
      by_cases e : i = aZ A
      · rw [if_pos e, if_pos e]
        simp (disch := omega) only [rg_sar, rg_sal, rg_srow, rg_srowl, ar_srg, ar_sal, ar_srowl, ar_s1, ar_s2, rg_s1, rg_s2, and_self]
      · rw [if_neg e, if_neg e]
        simp (disch := omega) only [rg_sar, rg_sal, rg_srow, rg_srowl, ar_srg, ar_sal, ar_srowl, ar_s1, ar_s2, rg_s1, rg_s2]
        exact cZ i (by omega)
    · rw [ar_sar_ne (by omega), ar_sar_ne (by omega), ar_sar_ne (by omega), ar_srg, ar_sar_ne (by omega), ar_sar_ne (by omega)]
    · refine ⟨⟨?_, ?_, ?_, ?_, ?_, ?_⟩, fun k hk => ⟨?_, ?_, ?_, ?_, fun j hj => ?_⟩, fun i hi => ?_, fun i hi => ⟨?_, ?_⟩, fun h0 => ⟨?_, fun i hi => ?_⟩⟩
      case refine_13 =>
        have hi' : i < aZ A + 1 := hi
        show _ = nI (if i = aZ A then n else ti A i)
        by_cases e : i = aZ A
        · rw [if_pos e]
          simp (disch := omega) only [rg_sar, rg_sal, rg_srow, rg_srowl, ar_srg, ar_sal, ar_srowl, ar_s1, ar_s2, rg_s1, rg_s2]
        · rw [if_neg e]
          simp (disch := omega) only [rg_sar, rg_sal, rg_srow, rg_srowl, ar_srg, ar_sal, ar_srowl, ar_s1, ar_s2, rg_s1, rg_s2]
          exact (mZ i (by omega)).1
      case refine_14 =>
        have hi' : i < aZ A + 1 := hi
        show _ = nI (if i = aZ A then w else tu A i)
        by_cases e : i = aZ A
        · rw [if_pos e]
          simp (disch := omega) only [rg_sar, rg_sal, rg_srow, rg_srowl, ar_srg, ar_sal, ar_srowl, ar_s1, ar_s2, rg_s1, rg_s2]
        · rw [if_neg e]
          simp (disch := omega) only [rg_sar, rg_sal, rg_srow, rg_srowl, ar_srg, ar_sal, ar_srowl, ar_s1, ar_s2, rg_s1, rg_s2]
          exact (mZ i (by omega)).2
      all_goals try have hk' : k < aS A := hk
      all_goals try have hj' : j < aS A := hj
      all_goals try have hi' : i < aT A := hi
      all_goals simp (disch := omega) only [rg_sar, rg_sal, rg_srow, rg_srowl, ar_srg, ar_sal, ar_srowl, ar_s1, ar_s2, rg_s1, rg_s2]
      all_goals try (first | exact m1 | exact m2 | exact m3 | exact m4 | exact m5 | exact m6 | exact (mS k hk).1 | exact (mS k hk).2.1 | exact (mS k hk).2.2.1 | exact (mS k hk).2.2.2.1 | exact (mS k hk).2.2.2.2 j hj | exact mT i hi | exact (mZ i hi).1 | exact (mZ i hi).2 | exact (mW h0).1 | exact (mW h0).2 i hi)
      rfl
theorem op_tell {N : Nat} {σ : Sg} {A : Ab} (hI : Inv A σ) (x y : Int32) : Ok2 (f_X6_tell N x y) (f_X7_tell N x y) σ := by
  by_cases hx : x = -1
  · exact op_tell1 hI x y hx
  obtain ⟨⟨hS7, hD99, hT100, hW5, hZ7⟩, hAS, hAT, hAZ, hAW, hAW0⟩ := id hI.1
  obtain ⟨-, hC, hM, hK, r, hr, r1, r2, r3⟩ := id hI
  obtain ⟨⟨c1, c2, c3, c4, c5⟩, cS, cT, cZ, cW⟩ := id hC
  obtain ⟨⟨m1, m2, m3, m4, m5, m6⟩, mS, mT, mZ, mW⟩ := id hM
  unfold f_X6_tell f_X7_tell
  rcases i_cases x with h | ⟨n, hn, rfl⟩
  · refine ⟨-2, σ, σ, A, ?_, ?_, hI⟩
    · dsimp only
      rw [if_neg hx]
      simp (disch := omega) only [↓nm_eq, gd_t, bd_s, bd2_s, l_0, l_1, l_2, l_3, l_4, l_5, l_6, l_7, l_8, l_9, l_10, l_11, l_12, l_13, l_14, l_15, l_16, l_17, l_18, l_19, l_20, l_21, l_22, l_23, l_24, l_25, l_31, l_32, l_33, l_38, l_40, l_41, l_48, l_51, l_57, l_59, l_60, l_61, l_63, l_87, l_94, l_97, l_99, l_100, l_101, l_102, l_115, l_124, l_127, l_128, l_140, l_201, l_206, l_300, l_906, l_999, l_9999, l_1000000, l_252645135, l_858993459, l_1000000000, l_1431655765, nI_add, pk_mul, nI_clamp, inb_nI, ilt_T, ilt_F, ile_T, ile_F, ieq_T, ieq_F, nbz_0, nbz_1, rg_sar, ar_srg, ar_s1, ar_s2, rg_s1, rg_s2, neg_1, neg_2, ↓reduceIte, true_and, and_true, and_self, ite_true, ite_false, eq_true h]
    · dsimp only
      rw [if_neg hx]
      refine bd2_k (x_in_lo h (by decide) _) (if_T n00 ?_)
      rfl
  by_cases hn1 : 999 < n
  · refine ⟨-2, σ, σ, A, ?_, ?_, hI⟩
    · dsimp only
      rw [if_neg hx]
      simp (disch := omega) only [↓nm_eq, gd_t, bd_s, bd2_s, l_0, l_1, l_2, l_3, l_4, l_5, l_6, l_7, l_8, l_9, l_10, l_11, l_12, l_13, l_14, l_15, l_16, l_17, l_18, l_19, l_20, l_21, l_22, l_23, l_24, l_25, l_31, l_32, l_33, l_38, l_40, l_41, l_48, l_51, l_57, l_59, l_60, l_61, l_63, l_87, l_94, l_97, l_99, l_100, l_101, l_102, l_115, l_124, l_127, l_128, l_140, l_201, l_206, l_300, l_906, l_999, l_9999, l_1000000, l_252645135, l_858993459, l_1000000000, l_1431655765, nI_add, pk_mul, nI_clamp, inb_nI, ilt_T, ilt_F, ile_T, ile_F, ieq_T, ieq_F, nbz_0, nbz_1, rg_sar, ar_srg, ar_s1, ar_s2, rg_s1, rg_s2, neg_1, neg_2, ↓reduceIte, true_and, and_true, and_self, ite_true, ite_false]
    · dsimp only
      rw [if_neg hx]
      refine bd2_k (x_in_F (Or.inr hn1) (by omega) (by decide) (by decide)) (if_T n00 ?_)
      rfl
  rcases i_cases y with h | ⟨w, hw, rfl⟩
  · refine ⟨-2, σ, σ, A, ?_, ?_, hI⟩
    · dsimp only
      rw [if_neg hx]
      simp (disch := omega) only [↓nm_eq, gd_t, bd_s, bd2_s, l_0, l_1, l_2, l_3, l_4, l_5, l_6, l_7, l_8, l_9, l_10, l_11, l_12, l_13, l_14, l_15, l_16, l_17, l_18, l_19, l_20, l_21, l_22, l_23, l_24, l_25, l_31, l_32, l_33, l_38, l_40, l_41, l_48, l_51, l_57, l_59, l_60, l_61, l_63, l_87, l_94, l_97, l_99, l_100, l_101, l_102, l_115, l_124, l_127, l_128, l_140, l_201, l_206, l_300, l_906, l_999, l_9999, l_1000000, l_252645135, l_858993459, l_1000000000, l_1431655765, nI_add, pk_mul, nI_clamp, inb_nI, ilt_T, ilt_F, ile_T, ile_F, ieq_T, ieq_F, nbz_0, nbz_1, rg_sar, ar_srg, ar_s1, ar_s2, rg_s1, rg_s2, neg_1, neg_2, ↓reduceIte, true_and, and_true, and_self, ite_true, ite_false, eq_true h]
    · dsimp only
      rw [if_neg hx]
      refine bd2_k (x_in_T (Nat.zero_le _) (Nat.le_of_not_lt hn1) (by decide)) (if_F n10 ?_)
      refine bd2_k (x_in_lo h (by decide) _) (if_T n00 ?_)
      rfl
  by_cases hw1 : 999 < w
  · refine ⟨-2, σ, σ, A, ?_, ?_, hI⟩
    · dsimp only
      rw [if_neg hx]
      simp (disch := omega) only [↓nm_eq, gd_t, bd_s, bd2_s, l_0, l_1, l_2, l_3, l_4, l_5, l_6, l_7, l_8, l_9, l_10, l_11, l_12, l_13, l_14, l_15, l_16, l_17, l_18, l_19, l_20, l_21, l_22, l_23, l_24, l_25, l_31, l_32, l_33, l_38, l_40, l_41, l_48, l_51, l_57, l_59, l_60, l_61, l_63, l_87, l_94, l_97, l_99, l_100, l_101, l_102, l_115, l_124, l_127, l_128, l_140, l_201, l_206, l_300, l_906, l_999, l_9999, l_1000000, l_252645135, l_858993459, l_1000000000, l_1431655765, nI_add, pk_mul, nI_clamp, inb_nI, ilt_T, ilt_F, ile_T, ile_F, ieq_T, ieq_F, nbz_0, nbz_1, rg_sar, ar_srg, ar_s1, ar_s2, rg_s1, rg_s2, neg_1, neg_2, ↓reduceIte, true_and, and_true, and_self, ite_true, ite_false]
    · dsimp only
      rw [if_neg hx]
      refine bd2_k (x_in_T (Nat.zero_le _) (Nat.le_of_not_lt hn1) (by decide)) (if_F n10 ?_)
      refine bd2_k (x_in_F (Or.inr hw1) (by omega) (by decide) (by decide)) (if_T n00 ?_)
      rfl
  by_cases hz : aZ A = 7
  · refine ⟨-4, σ, σ, A, ?_, ?_, hI⟩
    · dsimp only
      rw [if_neg hx]
      simp (disch := omega) only [↓nm_eq, gd_t, bd_s, bd2_s, l_0, l_1, l_2, l_3, l_4, l_5, l_6, l_7, l_8, l_9, l_10, l_11, l_12, l_13, l_14, l_15, l_16, l_17, l_18, l_19, l_20, l_21, l_22, l_23, l_24, l_25, l_31, l_32, l_33, l_38, l_40, l_41, l_48, l_51, l_57, l_59, l_60, l_61, l_63, l_87, l_94, l_97, l_99, l_100, l_101, l_102, l_115, l_124, l_127, l_128, l_140, l_201, l_206, l_300, l_906, l_999, l_9999, l_1000000, l_252645135, l_858993459, l_1000000000, l_1431655765, nI_add, pk_mul, nI_clamp, inb_nI, ilt_T, ilt_F, ile_T, ile_F, ieq_T, ieq_F, nbz_0, nbz_1, rg_sar, ar_srg, ar_s1, ar_s2, rg_s1, rg_s2, neg_1, neg_2, ↓reduceIte, true_and, and_true, and_self, ite_true, ite_false, c5]
    · dsimp only
      rw [if_neg hx]
      refine bd2_k (x_in_T (Nat.zero_le _) (Nat.le_of_not_lt hn1) (by decide)) (if_F n10 ?_)
      refine bd2_k (x_in_T (Nat.zero_le _) (Nat.le_of_not_lt hw1) (by decide)) (if_F n10 ?_)
      simp (disch := omega) only [↓nm_eq, gd_t, bd_s, bd2_s, l_0, l_1, l_2, l_3, l_4, l_5, l_6, l_7, l_8, l_9, l_10, l_11, l_12, l_13, l_14, l_15, l_16, l_17, l_18, l_19, l_20, l_21, l_22, l_23, l_24, l_25, l_31, l_32, l_33, l_38, l_40, l_41, l_48, l_51, l_57, l_59, l_60, l_61, l_63, l_87, l_94, l_97, l_99, l_100, l_101, l_102, l_115, l_124, l_127, l_128, l_140, l_201, l_206, l_300, l_906, l_999, l_9999, l_1000000, l_252645135, l_858993459, l_1000000000, l_1431655765, nI_add, pk_mul, nI_clamp, inb_nI, ilt_T, ilt_F, ile_T, ile_F, ieq_T, ieq_F, nbz_0, nbz_1, rg_sar, ar_srg, ar_s1, ar_s2, rg_s1, rg_s2, neg_1, neg_2, ↓reduceIte, true_and, and_true, and_self, ite_true, ite_false, m5]
  exact op_tell2 hI n w (by omega) (by omega) hx hz
theorem x_in_0 {N : Nat} {σ : Sg} {n : Nat} (hn : n < 2 ^ 31) : f_X7_in N (nI n) (nI 0) (nI 0 - nI 1) σ = some (nI 0, σ) := by
  unfold f_X7_in b_X7_in_14
  have e : (nI 0 - nI 1 : Int32) = -1 := by decide
  rw [e]
  rw [if_neg (fun q => by have := (nI_ltI hn (by decide)).mp q; omega), if_pos (by rw [Int32.lt_iff_toInt_lt, nI_toInt hn]; show (-1 : Int) < _; omega)]
  rfl
theorem op_trace {N : Nat} {σ : Sg} {A : Ab} (hI : Inv A σ) (x : Int32) : Ok2 (f_X6_trace N x) (f_X7_trace N x) σ := by
  obtain ⟨⟨hS7, hD99, hT100, hW5, hZ7⟩, hAS, hAT, hAZ, hAW, hAW0⟩ := id hI.1
  obtain ⟨-, hC, hM, hK, r, hr, r1, r2, r3⟩ := id hI
  obtain ⟨⟨c1, c2, c3, c4, c5⟩, cS, cT, cZ, cW⟩ := id hC
  obtain ⟨⟨m1, m2, m3, m4, m5, m6⟩, mS, mT, mZ, mW⟩ := id hM
  unfold f_X6_trace f_X7_trace b_X7_trace_20
  rcases i_cases x with h | ⟨n, hn, rfl⟩
  · refine ⟨-1, σ, σ, A, if_T h rfl, ?_, hI⟩
    dsimp only
    rw [r2]
    by_cases hr20 : 20 ≤ r
    · refine if_T (of_eq_true (ile_T hr20 (by omega))) (bd2_k (x_in_lo h (by decide) _) (if_T n00 rfl))
    · refine if_F (of_eq_false (ile_F (Nat.lt_of_not_le hr20) (by decide))) (bd2_k (x_in_lo h (by decide) _) (if_T n00 rfl))
  by_cases hin : n < r ∧ n < 20
  · refine ⟨ar σ 59 n, σ, σ, A, ?_, ?_, hI⟩
    · simp (disch := omega) only [↓nm_eq, gd_t, bd_s, bd2_s, l_0, l_1, l_2, l_3, l_4, l_5, l_6, l_7, l_8, l_9, l_10, l_11, l_12, l_13, l_14, l_15, l_16, l_17, l_18, l_19, l_20, l_21, l_22, l_23, l_24, l_25, l_31, l_32, l_33, l_38, l_40, l_41, l_48, l_51, l_57, l_59, l_60, l_61, l_63, l_87, l_94, l_97, l_99, l_100, l_101, l_102, l_115, l_124, l_127, l_128, l_140, l_201, l_206, l_300, l_906, l_999, l_9999, l_1000000, l_252645135, l_858993459, l_1000000000, l_1431655765, nI_add, pk_mul, nI_clamp, inb_nI, ilt_T, ilt_F, ile_T, ile_F, ieq_T, ieq_F, nbz_0, nbz_1, rg_sar, ar_srg, ar_s1, ar_s2, rg_s1, rg_s2, neg_1, neg_2, ↓reduceIte, true_and, and_true, and_self, ite_true, ite_false, r1]
    · dsimp only
      rw [r2, r3 n hin.1 hin.2]
      by_cases hr20 : 20 ≤ r
      · refine if_T (of_eq_true (ile_T hr20 (by omega))) ?_
        have e : (20 : Int32) - 1 = nI 19 := by decide
        rw [e]
        refine bd2_k (x_in_T (Nat.zero_le _) (by omega) (by decide)) (if_F n10 ?_)
        simp (disch := omega) only [↓nm_eq, gd_t, bd_s, bd2_s, l_0, l_1, l_2, l_3, l_4, l_5, l_6, l_7, l_8, l_9, l_10, l_11, l_12, l_13, l_14, l_15, l_16, l_17, l_18, l_19, l_20, l_21, l_22, l_23, l_24, l_25, l_31, l_32, l_33, l_38, l_40, l_41, l_48, l_51, l_57, l_59, l_60, l_61, l_63, l_87, l_94, l_97, l_99, l_100, l_101, l_102, l_115, l_124, l_127, l_128, l_140, l_201, l_206, l_300, l_906, l_999, l_9999, l_1000000, l_252645135, l_858993459, l_1000000000, l_1431655765, nI_add, pk_mul, nI_clamp, inb_nI, ilt_T, ilt_F, ile_T, ile_F, ieq_T, ieq_F, nbz_0, nbz_1, rg_sar, ar_srg, ar_s1, ar_s2, rg_s1, rg_s2, neg_1, neg_2, ↓reduceIte, true_and, and_true, and_self, ite_true, ite_false]
      · refine if_F (of_eq_false (ile_F (Nat.lt_of_not_le hr20) (by decide))) ?_
        rw [l_1, pk_sub (by omega)]
        refine bd2_k (x_in_T (Nat.zero_le _) (by omega) (by omega)) (if_F n10 ?_)
        simp (disch := omega) only [↓nm_eq, gd_t, bd_s, bd2_s, l_0, l_1, l_2, l_3, l_4, l_5, l_6, l_7, l_8, l_9, l_10, l_11, l_12, l_13, l_14, l_15, l_16, l_17, l_18, l_19, l_20, l_21, l_22, l_23, l_24, l_25, l_31, l_32, l_33, l_38, l_40, l_41, l_48, l_51, l_57, l_59, l_60, l_61, l_63, l_87, l_94, l_97, l_99, l_100, l_101, l_102, l_115, l_124, l_127, l_128, l_140, l_201, l_206, l_300, l_906, l_999, l_9999, l_1000000, l_252645135, l_858993459, l_1000000000, l_1431655765, nI_add, pk_mul, nI_clamp, inb_nI, ilt_T, ilt_F, ile_T, ile_F, ieq_T, ieq_F, nbz_0, nbz_1, rg_sar, ar_srg, ar_s1, ar_s2, rg_s1, rg_s2, neg_1, neg_2, ↓reduceIte, true_and, and_true, and_self, ite_true, ite_false]
  · refine ⟨-1, σ, σ, A, ?_, ?_, hI⟩
    · by_cases hnr : r ≤ n
      · simp (disch := omega) only [↓nm_eq, gd_t, bd_s, bd2_s, l_0, l_1, l_2, l_3, l_4, l_5, l_6, l_7, l_8, l_9, l_10, l_11, l_12, l_13, l_14, l_15, l_16, l_17, l_18, l_19, l_20, l_21, l_22, l_23, l_24, l_25, l_31, l_32, l_33, l_38, l_40, l_41, l_48, l_51, l_57, l_59, l_60, l_61, l_63, l_87, l_94, l_97, l_99, l_100, l_101, l_102, l_115, l_124, l_127, l_128, l_140, l_201, l_206, l_300, l_906, l_999, l_9999, l_1000000, l_252645135, l_858993459, l_1000000000, l_1431655765, nI_add, pk_mul, nI_clamp, inb_nI, ilt_T, ilt_F, ile_T, ile_F, ieq_T, ieq_F, nbz_0, nbz_1, rg_sar, ar_srg, ar_s1, ar_s2, rg_s1, rg_s2, neg_1, neg_2, ↓reduceIte, true_and, and_true, and_self, ite_true, ite_false, r1]
      · simp (disch := omega) only [↓nm_eq, gd_t, bd_s, bd2_s, l_0, l_1, l_2, l_3, l_4, l_5, l_6, l_7, l_8, l_9, l_10, l_11, l_12, l_13, l_14, l_15, l_16, l_17, l_18, l_19, l_20, l_21, l_22, l_23, l_24, l_25, l_31, l_32, l_33, l_38, l_40, l_41, l_48, l_51, l_57, l_59, l_60, l_61, l_63, l_87, l_94, l_97, l_99, l_100, l_101, l_102, l_115, l_124, l_127, l_128, l_140, l_201, l_206, l_300, l_906, l_999, l_9999, l_1000000, l_252645135, l_858993459, l_1000000000, l_1431655765, nI_add, pk_mul, nI_clamp, inb_nI, ilt_T, ilt_F, ile_T, ile_F, ieq_T, ieq_F, nbz_0, nbz_1, rg_sar, ar_srg, ar_s1, ar_s2, rg_s1, rg_s2, neg_1, neg_2, ↓reduceIte, true_and, and_true, and_self, ite_true, ite_false, r1]
    · dsimp only
      rw [r2]
      by_cases hr20 : 20 ≤ r
      · refine if_T (of_eq_true (ile_T hr20 (by omega))) ?_
        have e : (20 : Int32) - 1 = nI 19 := by decide
        rw [e]
        exact bd2_k (x_in_F (Or.inr (by omega)) hn (by decide) (by decide)) (if_T n00 rfl)
      · refine if_F (of_eq_false (ile_F (Nat.lt_of_not_le hr20) (by decide))) ?_
        by_cases h0 : r = 0
        · rw [h0]
          exact bd2_k (x_in_0 hn) (if_T n00 rfl)
        · rw [l_1, pk_sub (by omega)]
          exact bd2_k (x_in_F (Or.inr (by omega)) hn (by decide) (by omega)) (if_T n00 rfl)
theorem op_lead {N : Nat} {σ : Sg} {A : Ab} (hI : Inv A σ) (x y z : Int32) : Ok2 (f_X6_lead N x y z) (f_X7_lead N x y z) σ := by
  obtain ⟨⟨hS7, hD99, hT100, hW5, hZ7⟩, hAS, hAT, hAZ, hAW, hAW0⟩ := id hI.1
  obtain ⟨-, hC, hM, hK, r, hr, r1, r2, r3⟩ := id hI
  obtain ⟨⟨c1, c2, c3, c4, c5⟩, cS, cT, cZ, cW⟩ := id hC
  obtain ⟨⟨m1, m2, m3, m4, m5, m6⟩, mS, mT, mZ, mW⟩ := id hM
  unfold f_X6_lead f_X7_lead f_X6_refusalOfTwo f_X4_hasBoth b_X4_hasBoth_20
  rcases i_cases x with h | ⟨a, ha, rfl⟩
  · refine ⟨-1, σ, σ, A, ?_, ?_, hI⟩
    · simp (disch := omega) only [↓nm_eq, gd_t, bd_s, bd2_s, l_0, l_1, l_2, l_3, l_4, l_5, l_6, l_7, l_8, l_9, l_10, l_11, l_12, l_13, l_14, l_15, l_16, l_17, l_18, l_19, l_20, l_21, l_22, l_23, l_24, l_25, l_31, l_32, l_33, l_38, l_40, l_41, l_48, l_51, l_57, l_59, l_60, l_61, l_63, l_87, l_94, l_97, l_99, l_100, l_101, l_102, l_115, l_124, l_127, l_128, l_140, l_201, l_206, l_300, l_906, l_999, l_9999, l_1000000, l_252645135, l_858993459, l_1000000000, l_1431655765, nI_add, pk_mul, nI_clamp, inb_nI, ilt_T, ilt_F, ile_T, ile_F, ieq_T, ieq_F, nbz_0, nbz_1, rg_sar, ar_srg, ar_s1, ar_s2, rg_s1, rg_s2, neg_1, neg_2, ↓reduceIte, true_and, and_true, and_self, ite_true, ite_false, x_has_lo h]
    · simp (disch := omega) only [↓nm_eq, gd_t, bd_s, bd2_s, l_0, l_1, l_2, l_3, l_4, l_5, l_6, l_7, l_8, l_9, l_10, l_11, l_12, l_13, l_14, l_15, l_16, l_17, l_18, l_19, l_20, l_21, l_22, l_23, l_24, l_25, l_31, l_32, l_33, l_38, l_40, l_41, l_48, l_51, l_57, l_59, l_60, l_61, l_63, l_87, l_94, l_97, l_99, l_100, l_101, l_102, l_115, l_124, l_127, l_128, l_140, l_201, l_206, l_300, l_906, l_999, l_9999, l_1000000, l_252645135, l_858993459, l_1000000000, l_1431655765, nI_add, pk_mul, nI_clamp, inb_nI, ilt_T, ilt_F, ile_T, ile_F, ieq_T, ieq_F, nbz_0, nbz_1, rg_sar, ar_srg, ar_s1, ar_s2, rg_s1, rg_s2, neg_1, neg_2, ↓reduceIte, true_and, and_true, and_self, ite_true, ite_false, x_isS_lo h]
  by_cases haS : aS A ≤ a
  · refine ⟨-1, σ, σ, A, ?_, ?_, hI⟩
    · simp (disch := omega) only [↓nm_eq, gd_t, bd_s, bd2_s, l_0, l_1, l_2, l_3, l_4, l_5, l_6, l_7, l_8, l_9, l_10, l_11, l_12, l_13, l_14, l_15, l_16, l_17, l_18, l_19, l_20, l_21, l_22, l_23, l_24, l_25, l_31, l_32, l_33, l_38, l_40, l_41, l_48, l_51, l_57, l_59, l_60, l_61, l_63, l_87, l_94, l_97, l_99, l_100, l_101, l_102, l_115, l_124, l_127, l_128, l_140, l_201, l_206, l_300, l_906, l_999, l_9999, l_1000000, l_252645135, l_858993459, l_1000000000, l_1431655765, nI_add, pk_mul, nI_clamp, inb_nI, ilt_T, ilt_F, ile_T, ile_F, ieq_T, ieq_F, nbz_0, nbz_1, rg_sar, ar_srg, ar_s1, ar_s2, rg_s1, rg_s2, neg_1, neg_2, ↓reduceIte, true_and, and_true, and_self, ite_true, ite_false, x_has_F c1 hS7]
    · simp (disch := omega) only [↓nm_eq, gd_t, bd_s, bd2_s, l_0, l_1, l_2, l_3, l_4, l_5, l_6, l_7, l_8, l_9, l_10, l_11, l_12, l_13, l_14, l_15, l_16, l_17, l_18, l_19, l_20, l_21, l_22, l_23, l_24, l_25, l_31, l_32, l_33, l_38, l_40, l_41, l_48, l_51, l_57, l_59, l_60, l_61, l_63, l_87, l_94, l_97, l_99, l_100, l_101, l_102, l_115, l_124, l_127, l_128, l_140, l_201, l_206, l_300, l_906, l_999, l_9999, l_1000000, l_252645135, l_858993459, l_1000000000, l_1431655765, nI_add, pk_mul, nI_clamp, inb_nI, ilt_T, ilt_F, ile_T, ile_F, ieq_T, ieq_F, nbz_0, nbz_1, rg_sar, ar_srg, ar_s1, ar_s2, rg_s1, rg_s2, neg_1, neg_2, ↓reduceIte, true_and, and_true, and_self, ite_true, ite_false, x_isS_F m1 hS7]
  have haS' : a < aS A := by omega
  rcases i_cases y with h | ⟨b, hb, rfl⟩
  · refine ⟨-1, σ, σ, A, ?_, ?_, hI⟩
    · simp (disch := omega) only [↓nm_eq, gd_t, bd_s, bd2_s, l_0, l_1, l_2, l_3, l_4, l_5, l_6, l_7, l_8, l_9, l_10, l_11, l_12, l_13, l_14, l_15, l_16, l_17, l_18, l_19, l_20, l_21, l_22, l_23, l_24, l_25, l_31, l_32, l_33, l_38, l_40, l_41, l_48, l_51, l_57, l_59, l_60, l_61, l_63, l_87, l_94, l_97, l_99, l_100, l_101, l_102, l_115, l_124, l_127, l_128, l_140, l_201, l_206, l_300, l_906, l_999, l_9999, l_1000000, l_252645135, l_858993459, l_1000000000, l_1431655765, nI_add, pk_mul, nI_clamp, inb_nI, ilt_T, ilt_F, ile_T, ile_F, ieq_T, ieq_F, nbz_0, nbz_1, rg_sar, ar_srg, ar_s1, ar_s2, rg_s1, rg_s2, neg_1, neg_2, ↓reduceIte, true_and, and_true, and_self, ite_true, ite_false, x_has_T c1 hS7, x_has_lo h]
    · simp (disch := omega) only [↓nm_eq, gd_t, bd_s, bd2_s, l_0, l_1, l_2, l_3, l_4, l_5, l_6, l_7, l_8, l_9, l_10, l_11, l_12, l_13, l_14, l_15, l_16, l_17, l_18, l_19, l_20, l_21, l_22, l_23, l_24, l_25, l_31, l_32, l_33, l_38, l_40, l_41, l_48, l_51, l_57, l_59, l_60, l_61, l_63, l_87, l_94, l_97, l_99, l_100, l_101, l_102, l_115, l_124, l_127, l_128, l_140, l_201, l_206, l_300, l_906, l_999, l_9999, l_1000000, l_252645135, l_858993459, l_1000000000, l_1431655765, nI_add, pk_mul, nI_clamp, inb_nI, ilt_T, ilt_F, ile_T, ile_F, ieq_T, ieq_F, nbz_0, nbz_1, rg_sar, ar_srg, ar_s1, ar_s2, rg_s1, rg_s2, neg_1, neg_2, ↓reduceIte, true_and, and_true, and_self, ite_true, ite_false, x_isS_T m1 hS7, x_isS_lo h]
  by_cases hbS : aS A ≤ b
  · refine ⟨-1, σ, σ, A, ?_, ?_, hI⟩
    · simp (disch := omega) only [↓nm_eq, gd_t, bd_s, bd2_s, l_0, l_1, l_2, l_3, l_4, l_5, l_6, l_7, l_8, l_9, l_10, l_11, l_12, l_13, l_14, l_15, l_16, l_17, l_18, l_19, l_20, l_21, l_22, l_23, l_24, l_25, l_31, l_32, l_33, l_38, l_40, l_41, l_48, l_51, l_57, l_59, l_60, l_61, l_63, l_87, l_94, l_97, l_99, l_100, l_101, l_102, l_115, l_124, l_127, l_128, l_140, l_201, l_206, l_300, l_906, l_999, l_9999, l_1000000, l_252645135, l_858993459, l_1000000000, l_1431655765, nI_add, pk_mul, nI_clamp, inb_nI, ilt_T, ilt_F, ile_T, ile_F, ieq_T, ieq_F, nbz_0, nbz_1, rg_sar, ar_srg, ar_s1, ar_s2, rg_s1, rg_s2, neg_1, neg_2, ↓reduceIte, true_and, and_true, and_self, ite_true, ite_false, x_has_T c1 hS7, x_has_F c1 hS7]
    · simp (disch := omega) only [↓nm_eq, gd_t, bd_s, bd2_s, l_0, l_1, l_2, l_3, l_4, l_5, l_6, l_7, l_8, l_9, l_10, l_11, l_12, l_13, l_14, l_15, l_16, l_17, l_18, l_19, l_20, l_21, l_22, l_23, l_24, l_25, l_31, l_32, l_33, l_38, l_40, l_41, l_48, l_51, l_57, l_59, l_60, l_61, l_63, l_87, l_94, l_97, l_99, l_100, l_101, l_102, l_115, l_124, l_127, l_128, l_140, l_201, l_206, l_300, l_906, l_999, l_9999, l_1000000, l_252645135, l_858993459, l_1000000000, l_1431655765, nI_add, pk_mul, nI_clamp, inb_nI, ilt_T, ilt_F, ile_T, ile_F, ieq_T, ieq_F, nbz_0, nbz_1, rg_sar, ar_srg, ar_s1, ar_s2, rg_s1, rg_s2, neg_1, neg_2, ↓reduceIte, true_and, and_true, and_self, ite_true, ite_false, x_isS_T m1 hS7, x_isS_F m1 hS7]
  have hbS' : b < aS A := by omega
  by_cases hab : a = b
  · refine ⟨-2, σ, σ, A, ?_, ?_, hI⟩
    · simp (disch := omega) only [↓nm_eq, gd_t, bd_s, bd2_s, l_0, l_1, l_2, l_3, l_4, l_5, l_6, l_7, l_8, l_9, l_10, l_11, l_12, l_13, l_14, l_15, l_16, l_17, l_18, l_19, l_20, l_21, l_22, l_23, l_24, l_25, l_31, l_32, l_33, l_38, l_40, l_41, l_48, l_51, l_57, l_59, l_60, l_61, l_63, l_87, l_94, l_97, l_99, l_100, l_101, l_102, l_115, l_124, l_127, l_128, l_140, l_201, l_206, l_300, l_906, l_999, l_9999, l_1000000, l_252645135, l_858993459, l_1000000000, l_1431655765, nI_add, pk_mul, nI_clamp, inb_nI, ilt_T, ilt_F, ile_T, ile_F, ieq_T, ieq_F, nbz_0, nbz_1, rg_sar, ar_srg, ar_s1, ar_s2, rg_s1, rg_s2, neg_1, neg_2, ↓reduceIte, true_and, and_true, and_self, ite_true, ite_false, x_has_T c1 hS7]
    · simp (disch := omega) only [↓nm_eq, gd_t, bd_s, bd2_s, l_0, l_1, l_2, l_3, l_4, l_5, l_6, l_7, l_8, l_9, l_10, l_11, l_12, l_13, l_14, l_15, l_16, l_17, l_18, l_19, l_20, l_21, l_22, l_23, l_24, l_25, l_31, l_32, l_33, l_38, l_40, l_41, l_48, l_51, l_57, l_59, l_60, l_61, l_63, l_87, l_94, l_97, l_99, l_100, l_101, l_102, l_115, l_124, l_127, l_128, l_140, l_201, l_206, l_300, l_906, l_999, l_9999, l_1000000, l_252645135, l_858993459, l_1000000000, l_1431655765, nI_add, pk_mul, nI_clamp, inb_nI, ilt_T, ilt_F, ile_T, ile_F, ieq_T, ieq_F, nbz_0, nbz_1, rg_sar, ar_srg, ar_s1, ar_s2, rg_s1, rg_s2, neg_1, neg_2, ↓reduceIte, true_and, and_true, and_self, ite_true, ite_false, x_isS_T m1 hS7]
  obtain ⟨d1, d2, d3, d4, d5⟩ := cS a haS'
  obtain ⟨e1, e2, e3, e4, e5⟩ := mS a haS'
  have e5' := e5 b hbS'
  obtain ⟨p1, p2, p3, p4, p5, p6⟩ := hAS a haS'
  have h128 := p2_le hS7 p5
  have q1 := bit_1 (ld A a) h128 b (by omega)
  have q2 := bit_2 (ld A a) h128 b (by omega)
  have q3 := bit_3 (ld A a) h128 b (by omega)
  have hbb : 2 ^ b < 2 ^ aS A := Nat.pow_lt_pow_right (by decide) hbS'
  have fin : ∀ (l : Nat) (bo : Bool), l < 2 ^ aS A → (∀ i, i < 7 → l.testBit i = if i = b then bo else (ld A a).testBit i) → ∀ (v : Int32), v = (if bo = true then 1 else 0) → Inv (A.1, kd A, vv A, ii A, oo A, (fun i => if i = a then l else ld A i), tp A, ti A, tu A, tw A) (sar (sar σ 14 a (nI l)) 61 (38 + 7 * a + b) v) := by
    intro l bo hl hbit v hv
    refine hI.upd ⟨⟨hS7, hD99, hT100, hW5, hZ7⟩, fun i hi => ?_, hAT, hAZ, hAW, hAW0⟩ ⟨⟨c1, c2, c3, c4, c5⟩, fun i hi => ?_, fun i hi => ?_, fun i hi => ?_, cW.same rfl rfl (fun k hk => ?_)⟩ ?_ (((Sk.rf σ).sar _ _ rfl).sar _ _ rfl)
    · have hi' : i < aS A := hi
      obtain ⟨p1, p2, p3, p4, p5, p6⟩ := hAS i hi
      refine ⟨p1, p2, p3, p4, ?_, ?_⟩
      · show (if i = a then l else ld A i) < 2 ^ aS A
        by_cases e : i = a
        · rw [if_pos e]
          exact hl
        · rw [if_neg e]
          exact p5
      · show (if i = a then l else ld A i).testBit i = false
        by_cases e : i = a
        · rw [if_pos e, hbit i (by omega), if_neg (by omega), ← e]
          exact p6
        · rw [if_neg e]
          exact p6
    · obtain ⟨p1, p2, p3, p4, p5⟩ := cS i hi
      refine ⟨?_, ?_, ?_, ?_, ?_⟩
      case refine_5 =>
        show _ = nI (if i = a then l else ld A i)
        by_cases e : i = a
        · rw [if_pos e]
          simp (disch := omega) only [rg_sar, rg_sal, rg_srow, rg_srowl, ar_srg, ar_sal, ar_srowl, ar_s1, ar_s2, rg_s1, rg_s2]
        · rw [if_neg e]
          simp (disch := omega) only [rg_sar, rg_sal, rg_srow, rg_srowl, ar_srg, ar_sal, ar_srowl, ar_s1, ar_s2, rg_s1, rg_s2]
          exact p5
      all_goals simp (disch := omega) only [rg_sar, rg_sal, rg_srow, rg_srowl, ar_srg, ar_sal, ar_srowl, ar_s1, ar_s2, rg_s1, rg_s2]
      all_goals assumption
    · simp (disch := omega) only [rg_sar, rg_sal, rg_srow, rg_srowl, ar_srg, ar_sal, ar_srowl, ar_s1, ar_s2, rg_s1, rg_s2]
      exact cT i hi
    · simp (disch := omega) only [rg_sar, rg_sal, rg_srow, rg_srowl, ar_srg, ar_sal, ar_srowl, ar_s1, ar_s2, rg_s1, rg_s2]
      exact cZ i hi
    · rw [ar_sar_ne (by omega), ar_sar_ne (by omega)]
    · refine ⟨⟨?_, ?_, ?_, ?_, ?_, ?_⟩, fun k hk => ⟨?_, ?_, ?_, ?_, fun j hj => ?_⟩, fun i hi => ?_, fun i hi => ⟨?_, ?_⟩, fun h0 => ⟨?_, fun i hi => ?_⟩⟩
      case refine_11 =>
        have hk' : k < aS A := hk
        have hj' : j < aS A := hj
        show _ = if (if k = a then l else ld A k).testBit j = true then 1 else 0
        by_cases e : k = a
        · rw [if_pos e, hbit j (by omega)]
          by_cases e2 : j = b
          · rw [if_pos e2, ar_s2 (by omega)]
            exact hv
          · rw [if_neg e2]
            simp (disch := omega) only [rg_sar, rg_sal, rg_srow, rg_srowl, ar_srg, ar_sal, ar_srowl, ar_s1, ar_s2, rg_s1, rg_s2]
            rw [← e]
            exact (mS k hk).2.2.2.2 j hj
        · rw [if_neg e]
          simp (disch := omega) only [rg_sar, rg_sal, rg_srow, rg_srowl, ar_srg, ar_sal, ar_srowl, ar_s1, ar_s2, rg_s1, rg_s2]
          exact (mS k hk).2.2.2.2 j hj
      all_goals try have hk' : k < aS A := hk
      all_goals try have hi' : i < aZ A := hi
      all_goals simp (disch := omega) only [rg_sar, rg_sal, rg_srow, rg_srowl, ar_srg, ar_sal, ar_srowl, ar_s1, ar_s2, rg_s1, rg_s2]
      all_goals try (first | exact m1 | exact m2 | exact m3 | exact m4 | exact m5 | exact m6 | exact (mS k hk).1 | exact (mS k hk).2.1 | exact (mS k hk).2.2.1 | exact (mS k hk).2.2.2.1 | exact (mS k hk).2.2.2.2 j hj | exact mT i hi | exact (mZ i hi).1 | exact (mZ i hi).2 | exact (mW h0).1 | exact (mW h0).2 i hi)
  by_cases hz : z = nI 0
  · refine ⟨if (ld A a).testBit b = true then nI 1 else nI 0, sar σ 14 a (nI (ld A a &&& (127 ^^^ 2 ^ b))), sar (sar σ 14 a (nI (ld A a &&& (127 ^^^ 2 ^ b)))) 61 (38 + 7 * a + b) 0, _, ?_, ?_, fin (ld A a &&& (127 ^^^ 2 ^ b)) false ?_ ?_ 0 rfl⟩
    · simp (disch := omega) only [↓nm_eq, gd_t, bd_s, bd2_s, l_0, l_1, l_2, l_3, l_4, l_5, l_6, l_7, l_8, l_9, l_10, l_11, l_12, l_13, l_14, l_15, l_16, l_17, l_18, l_19, l_20, l_21, l_22, l_23, l_24, l_25, l_31, l_32, l_33, l_38, l_40, l_41, l_48, l_51, l_57, l_59, l_60, l_61, l_63, l_87, l_94, l_97, l_99, l_100, l_101, l_102, l_115, l_124, l_127, l_128, l_140, l_201, l_206, l_300, l_906, l_999, l_9999, l_1000000, l_252645135, l_858993459, l_1000000000, l_1431655765, nI_add, pk_mul, nI_clamp, inb_nI, ilt_T, ilt_F, ile_T, ile_F, ieq_T, ieq_F, nbz_0, nbz_1, rg_sar, ar_srg, ar_s1, ar_s2, rg_s1, rg_s2, neg_1, neg_2, ↓reduceIte, true_and, and_true, and_self, ite_true, ite_false, x_has_T c1 hS7, d5, q1, q3, eq_true hz]
    · have m1' : ar (sar σ 14 a (nI (ld A a &&& (127 ^^^ 2 ^ b)))) 61 0 = nI (aS A) := m1
      refine bd2_k (x_isS_T m1' hS7 haS') (if_F n10 (bd2_k (x_isS_T m1' hS7 hbS') (if_F n10 (if_F (of_eq_false (ieq_F hab (by omega) (by omega))) ?_))))
      simp (disch := omega) only [↓nm_eq, gd_t, bd_s, bd2_s, l_0, l_1, l_2, l_3, l_4, l_5, l_6, l_7, l_8, l_9, l_10, l_11, l_12, l_13, l_14, l_15, l_16, l_17, l_18, l_19, l_20, l_21, l_22, l_23, l_24, l_25, l_31, l_32, l_33, l_38, l_40, l_41, l_48, l_51, l_57, l_59, l_60, l_61, l_63, l_87, l_94, l_97, l_99, l_100, l_101, l_102, l_115, l_124, l_127, l_128, l_140, l_201, l_206, l_300, l_906, l_999, l_9999, l_1000000, l_252645135, l_858993459, l_1000000000, l_1431655765, nI_add, pk_mul, nI_clamp, inb_nI, ilt_T, ilt_F, ile_T, ile_F, ieq_T, ieq_F, nbz_0, nbz_1, rg_sar, ar_srg, ar_s1, ar_s2, rg_s1, rg_s2, neg_1, neg_2, ↓reduceIte, true_and, and_true, and_self, ite_true, ite_false, e5', eq_true hz]
    · exact Nat.lt_of_le_of_lt Nat.and_le_left p5
    · intro i hi
      rw [bit_5 (ld A a) h128 b (by omega) i hi]
      by_cases e : i = b
      · rw [if_pos e, decide_eq_true e]
        exact Bool.and_false _
      · rw [if_neg e, decide_eq_false e]
        exact Bool.and_true _
  · refine ⟨if (ld A a).testBit b = true then nI 1 else nI 0, sar σ 14 a (nI (ld A a ||| 2 ^ b)), sar (sar σ 14 a (nI (ld A a ||| 2 ^ b))) 61 (38 + 7 * a + b) 1, _, ?_, ?_, fin (ld A a ||| 2 ^ b) true ?_ ?_ 1 rfl⟩
    · simp (disch := omega) only [↓nm_eq, gd_t, bd_s, bd2_s, l_0, l_1, l_2, l_3, l_4, l_5, l_6, l_7, l_8, l_9, l_10, l_11, l_12, l_13, l_14, l_15, l_16, l_17, l_18, l_19, l_20, l_21, l_22, l_23, l_24, l_25, l_31, l_32, l_33, l_38, l_40, l_41, l_48, l_51, l_57, l_59, l_60, l_61, l_63, l_87, l_94, l_97, l_99, l_100, l_101, l_102, l_115, l_124, l_127, l_128, l_140, l_201, l_206, l_300, l_906, l_999, l_9999, l_1000000, l_252645135, l_858993459, l_1000000000, l_1431655765, nI_add, pk_mul, nI_clamp, inb_nI, ilt_T, ilt_F, ile_T, ile_F, ieq_T, ieq_F, nbz_0, nbz_1, rg_sar, ar_srg, ar_s1, ar_s2, rg_s1, rg_s2, neg_1, neg_2, ↓reduceIte, true_and, and_true, and_self, ite_true, ite_false, x_has_T c1 hS7, d5, q1, q2, eq_false hz]
    · have m1' : ar (sar σ 14 a (nI (ld A a ||| 2 ^ b))) 61 0 = nI (aS A) := m1
      refine bd2_k (x_isS_T m1' hS7 haS') (if_F n10 (bd2_k (x_isS_T m1' hS7 hbS') (if_F n10 (if_F (of_eq_false (ieq_F hab (by omega) (by omega))) ?_))))
      simp (disch := omega) only [↓nm_eq, gd_t, bd_s, bd2_s, l_0, l_1, l_2, l_3, l_4, l_5, l_6, l_7, l_8, l_9, l_10, l_11, l_12, l_13, l_14, l_15, l_16, l_17, l_18, l_19, l_20, l_21, l_22, l_23, l_24, l_25, l_31, l_32, l_33, l_38, l_40, l_41, l_48, l_51, l_57, l_59, l_60, l_61, l_63, l_87, l_94, l_97, l_99, l_100, l_101, l_102, l_115, l_124, l_127, l_128, l_140, l_201, l_206, l_300, l_906, l_999, l_9999, l_1000000, l_252645135, l_858993459, l_1000000000, l_1431655765, nI_add, pk_mul, nI_clamp, inb_nI, ilt_T, ilt_F, ile_T, ile_F, ieq_T, ieq_F, nbz_0, nbz_1, rg_sar, ar_srg, ar_s1, ar_s2, rg_s1, rg_s2, neg_1, neg_2, ↓reduceIte, true_and, and_true, and_self, ite_true, ite_false, e5', eq_false hz]
    · exact Nat.or_lt_two_pow p5 hbb
    · intro i hi
      rw [bit_4 (ld A a) h128 b (by omega) i hi]
      by_cases e : i = b
      · rw [if_pos e, decide_eq_true e]
        exact Bool.or_true _
      · rw [if_neg e, decide_eq_false e]
        exact Bool.or_false _
theorem st_lp {N : Nat} {s : Nat} (hs : s < 7) : ∀ (m n j : Nat), j + m = 7 → ∀ σ : Sg, ∃ σ', b_X7_street_89 N (n + m + 1) (nI s) (nI j) σ = some (nI s, σ') ∧ rg σ' = rg σ ∧ (∀ k, k ≠ 61 → ar σ' k = ar σ k) ∧ ar σ' 61 0 = ar σ 61 0 + nI 1 ∧ (∀ q, j ≤ q → q < 7 → ar σ' 61 (38 + 7 * s + q) = nI 0 ∧ ar σ' 61 (38 + 7 * q + s) = nI 0) ∧ ∀ i, i ≠ 0 → (∀ q, j ≤ q → q < 7 → i ≠ 38 + 7 * s + q ∧ i ≠ 38 + 7 * q + s) → ar σ' 61 i = ar σ 61 i
  | 0, n, j, hj, σ => by
    have e : j = 7 := by omega
    subst e
    refine ⟨sar σ 61 0 (ar σ 61 0 + nI 1), ?_, rfl, fun k hk => ar_sar_ne hk, ?_, fun q h1 h2 => by omega, fun i hi _ => ?_⟩
    · show b_X7_street_89b N (b_X7_street_89 N n) (nI s) (nI 7) σ = _
      unfold b_X7_street_89b
      simp (disch := omega) only [↓nm_eq, gd_t, bd_s, bd2_s, l_0, l_1, l_2, l_3, l_4, l_5, l_6, l_7, l_8, l_9, l_10, l_11, l_12, l_13, l_14, l_15, l_16, l_17, l_18, l_19, l_20, l_21, l_22, l_23, l_24, l_25, l_31, l_32, l_33, l_38, l_40, l_41, l_48, l_51, l_57, l_59, l_60, l_61, l_63, l_87, l_94, l_97, l_99, l_100, l_101, l_102, l_115, l_124, l_127, l_128, l_140, l_201, l_206, l_300, l_906, l_999, l_9999, l_1000000, l_252645135, l_858993459, l_1000000000, l_1431655765, nI_add, pk_mul, nI_clamp, inb_nI, ilt_T, ilt_F, ile_T, ile_F, ieq_T, ieq_F, nbz_0, nbz_1, rg_sar, ar_srg, ar_s1, ar_s2, rg_s1, rg_s2, neg_1, neg_2, ↓reduceIte, true_and, and_true, and_self, ite_true, ite_false]
    · rw [ar_s2 ⟨rfl, rfl⟩]
    · rw [ar_s1 (by omega)]
  | m + 1, n, j, hj, σ => by
    obtain ⟨σ', a1, a2, a3, a4, a5, a6⟩ := st_lp (N := N) hs m n (j + 1) (by omega) (sar (sar σ 61 (38 + 7 * s + j) (nI 0)) 61 (38 + 7 * j + s) (nI 0))
    refine ⟨σ', ?_, a2, fun k hk => (a3 k hk).trans (by rw [ar_sar_ne hk, ar_sar_ne hk]), ?_, fun q h1 h2 => ?_, fun i hi hq => ?_⟩
    · show b_X7_street_89b N (b_X7_street_89 N (n + m + 1)) (nI s) (nI j) σ = _
      unfold b_X7_street_89b
      rw [← a1]
      simp (disch := omega) only [↓nm_eq, gd_t, bd_s, bd2_s, l_0, l_1, l_2, l_3, l_4, l_5, l_6, l_7, l_8, l_9, l_10, l_11, l_12, l_13, l_14, l_15, l_16, l_17, l_18, l_19, l_20, l_21, l_22, l_23, l_24, l_25, l_31, l_32, l_33, l_38, l_40, l_41, l_48, l_51, l_57, l_59, l_60, l_61, l_63, l_87, l_94, l_97, l_99, l_100, l_101, l_102, l_115, l_124, l_127, l_128, l_140, l_201, l_206, l_300, l_906, l_999, l_9999, l_1000000, l_252645135, l_858993459, l_1000000000, l_1431655765, nI_add, pk_mul, nI_clamp, inb_nI, ilt_T, ilt_F, ile_T, ile_F, ieq_T, ieq_F, nbz_0, nbz_1, rg_sar, ar_srg, ar_s1, ar_s2, rg_s1, rg_s2, neg_1, neg_2, ↓reduceIte, true_and, and_true, and_self, ite_true, ite_false]
    · rw [a4, ar_s1 (by omega), ar_s1 (by omega)]
    · by_cases e : q = j
      · subst e
        refine ⟨?_, ?_⟩
        · rw [a6 _ (by omega) (fun q' h3 h4 => by omega)]
          by_cases e2 : q = s
          · rw [ar_s2 (by omega)]
          · rw [ar_s1 (by omega), ar_s2 (by omega)]
        · rw [a6 _ (by omega) (fun q' h3 h4 => by omega), ar_s2 (by omega)]
      · exact a5 q (by omega) h2
    · rw [a6 i hi (fun q h3 h4 => hq q (by omega) h4), ar_s1 (by have := hq j (Nat.le_refl j) (by omega); omega), ar_s1 (by have := hq j (Nat.le_refl j) (by omega); omega)]
theorem op_street1 {N : Nat} {σ : Sg} {A : Ab} (hN : 8 ≤ N) (hI : Inv A σ) {c w : Nat} (hc : c ≤ 6) (hw : w ≤ 9) (hS : aS A < 7) : Ok2 (f_X6_street N (nI c) (nI w)) (f_X7_street N (nI c) (nI w)) σ := by
  obtain ⟨⟨hS7, hD99, hT100, hW5, hZ7⟩, hAS, hAT, hAZ, hAW, hAW0⟩ := id hI.1
  obtain ⟨-, hC, hM, hK, r, hr, r1, r2, r3⟩ := id hI
  obtain ⟨⟨c1, c2, c3, c4, c5⟩, cS, cT, cZ, cW⟩ := id hC
  obtain ⟨⟨m1, m2, m3, m4, m5, m6⟩, mS, mT, mZ, mW⟩ := id hM
  unfold f_X6_street f_X7_street f_X4_add
  obtain ⟨σ', a1, a2, a3, a4, a5, a6⟩ := st_lp (N := N) hS 7 (N - 8) 0 rfl (sar (sar (sar (sar (srg (sar (sar (sar (sar (sar σ 10 (aS A) (nI c)) 11 (aS A) (nI w)) 12 (aS A) (nI 0)) 13 (aS A) (nI 0)) 14 (aS A) (nI 0)) 1 0 (nI (aS A + 1))) 61 (10 + aS A) (nI c)) 61 (17 + aS A) (nI w)) 61 (24 + aS A) (nI 0)) 61 (31 + aS A) (nI 0))
  rw [show N - 8 + 7 + 1 = N by omega] at a1
  refine ⟨nI (aS A), srg (sar (sar (sar (sar (sar σ 10 (aS A) (nI c)) 11 (aS A) (nI w)) 12 (aS A) (nI 0)) 13 (aS A) (nI 0)) 14 (aS A) (nI 0)) 1 0 (nI (aS A + 1)), σ', ((aS A + 1, aD A, aT A, aW A, aZ A), (fun i => if i = aS A then c else kd A i), (fun i => if i = aS A then w else vv A i), (fun i => if i = aS A then 0 else ii A i), (fun i => if i = aS A then 0 else oo A i), (fun i => if i = aS A then 0 else ld A i), tp A, ti A, tu A, tw A), ?_, ?_, ?_⟩
  · simp (disch := omega) only [↓nm_eq, gd_t, bd_s, bd2_s, l_0, l_1, l_2, l_3, l_4, l_5, l_6, l_7, l_8, l_9, l_10, l_11, l_12, l_13, l_14, l_15, l_16, l_17, l_18, l_19, l_20, l_21, l_22, l_23, l_24, l_25, l_31, l_32, l_33, l_38, l_40, l_41, l_48, l_51, l_57, l_59, l_60, l_61, l_63, l_87, l_94, l_97, l_99, l_100, l_101, l_102, l_115, l_124, l_127, l_128, l_140, l_201, l_206, l_300, l_906, l_999, l_9999, l_1000000, l_252645135, l_858993459, l_1000000000, l_1431655765, nI_add, pk_mul, nI_clamp, inb_nI, ilt_T, ilt_F, ile_T, ile_F, ieq_T, ieq_F, nbz_0, nbz_1, rg_sar, ar_srg, ar_s1, ar_s2, rg_s1, rg_s2, neg_1, neg_2, ↓reduceIte, true_and, and_true, and_self, ite_true, ite_false, c1]
  · have mB : ar (srg (sar (sar (sar (sar (sar σ 10 (aS A) (nI c)) 11 (aS A) (nI w)) 12 (aS A) (nI 0)) 13 (aS A) (nI 0)) 14 (aS A) (nI 0)) 1 0 (nI (aS A + 1))) 61 0 = nI (aS A) := m1
    refine bd2_k (x_in_T (Nat.zero_le _) hc (by decide)) (if_F n10 (bd2_k (x_in_T (Nat.zero_le _) hw (by decide)) (if_F n10 ?_)))
    rw [← a1]
    simp (disch := omega) only [↓nm_eq, gd_t, bd_s, bd2_s, l_0, l_1, l_2, l_3, l_4, l_5, l_6, l_7, l_8, l_9, l_10, l_11, l_12, l_13, l_14, l_15, l_16, l_17, l_18, l_19, l_20, l_21, l_22, l_23, l_24, l_25, l_31, l_32, l_33, l_38, l_40, l_41, l_48, l_51, l_57, l_59, l_60, l_61, l_63, l_87, l_94, l_97, l_99, l_100, l_101, l_102, l_115, l_124, l_127, l_128, l_140, l_201, l_206, l_300, l_906, l_999, l_9999, l_1000000, l_252645135, l_858993459, l_1000000000, l_1431655765, nI_add, pk_mul, nI_clamp, inb_nI, ilt_T, ilt_F, ile_T, ile_F, ieq_T, ieq_F, nbz_0, nbz_1, rg_sar, ar_srg, ar_s1, ar_s2, rg_s1, rg_s2, neg_1, neg_2, ↓reduceIte, true_and, and_true, and_self, ite_true, ite_false, m1]
  have hCB : RC 1 10 3 26 ((aS A + 1, aD A, aT A, aW A, aZ A), (fun i => if i = aS A then c else kd A i), (fun i => if i = aS A then w else vv A i), (fun i => if i = aS A then 0 else ii A i), (fun i => if i = aS A then 0 else oo A i), (fun i => if i = aS A then 0 else ld A i), tp A, ti A, tu A, tw A) (sar (sar (sar (sar (srg (sar (sar (sar (sar (sar σ 10 (aS A) (nI c)) 11 (aS A) (nI w)) 12 (aS A) (nI 0)) 13 (aS A) (nI 0)) 14 (aS A) (nI 0)) 1 0 (nI (aS A + 1))) 61 (10 + aS A) (nI c)) 61 (17 + aS A) (nI w)) 61 (24 + aS A) (nI 0)) 61 (31 + aS A) (nI 0)) := by
    refine ⟨⟨rfl, c2, c3, c4, c5⟩, fun k hk => ?_, fun i hi => ?_, fun i hi => ?_, cW.same rfl rfl (fun k hk => ?_)⟩
    · have hk' : k < aS A + 1 := hk
      show _ = nI (if k = aS A then c else kd A k) ∧ _ = nI (if k = aS A then w else vv A k) ∧ _ = nI (if k = aS A then 0 else ii A k) ∧ _ = nI (if k = aS A then 0 else oo A k) ∧ _ = nI (if k = aS A then 0 else ld A k)
      by_cases e : k = aS A
      · rw [if_pos e, if_pos e, if_pos e, if_pos e, if_pos e]
        simp (disch := omega) only [rg_sar, rg_sal, rg_srow, rg_srowl, ar_srg, ar_sal, ar_srowl, ar_s1, ar_s2, rg_s1, rg_s2, and_self]
      · rw [if_neg e, if_neg e, if_neg e, if_neg e, if_neg e]
        simp (disch := omega) only [rg_sar, rg_sal, rg_srow, rg_srowl, ar_srg, ar_sal, ar_srowl, ar_s1, ar_s2, rg_s1, rg_s2]
        exact cS k (by omega)
    · simp (disch := omega) only [rg_sar, rg_sal, rg_srow, rg_srowl, ar_srg, ar_sal, ar_srowl, ar_s1, ar_s2, rg_s1, rg_s2]
      exact cT i hi
    · simp (disch := omega) only [rg_sar, rg_sal, rg_srow, rg_srowl, ar_srg, ar_sal, ar_srowl, ar_s1, ar_s2, rg_s1, rg_s2]
      exact cZ i hi
    · rw [ar_sar_ne (by omega), ar_sar_ne (by omega), ar_sar_ne (by omega), ar_sar_ne (by omega), ar_srg, ar_sar_ne (by omega), ar_sar_ne (by omega), ar_sar_ne (by omega), ar_sar_ne (by omega), ar_sar_ne (by omega)]
  have hkB : Sk σ (sar (sar (sar (sar (srg (sar (sar (sar (sar (sar σ 10 (aS A) (nI c)) 11 (aS A) (nI w)) 12 (aS A) (nI 0)) 13 (aS A) (nI 0)) 14 (aS A) (nI 0)) 1 0 (nI (aS A + 1))) 61 (10 + aS A) (nI c)) 61 (17 + aS A) (nI w)) 61 (24 + aS A) (nI 0)) 61 (31 + aS A) (nI 0)) := ((((((((((Sk.rf σ).sar _ _ rfl).sar _ _ rfl).sar _ _ rfl).sar _ _ rfl).sar _ _ rfl).srg _ rfl).sar _ _ rfl).sar _ _ rfl).sar _ _ rfl).sar _ _ rfl
  refine hI.upd ⟨⟨hS, hD99, hT100, hW5, hZ7⟩, fun i hi => ?_, hAT, hAZ, hAW, hAW0⟩ (hCB.same (fun j => by rw [a2]) (fun k hk => a3 _ (by omega)) (fun j => by rw [a2]) (fun k hk => a3 _ (by omega))) ?_ (hkB.tr ⟨fun k j _ => by rw [a2], fun k e => a3 k (by rintro rfl; cases e)⟩)
  · have hi' : i < aS A + 1 := hi
    show (if i = aS A then c else kd A i) ≤ 6 ∧ (if i = aS A then w else vv A i) ≤ 9 ∧ (if i = aS A then 0 else ii A i) ≤ 9999 ∧ (if i = aS A then 0 else oo A i) ≤ 9999 ∧ (if i = aS A then 0 else ld A i) < 2 ^ (aS A + 1) ∧ (if i = aS A then 0 else ld A i).testBit i = false
    by_cases e : i = aS A
    · rw [if_pos e, if_pos e, if_pos e, if_pos e, if_pos e]
      exact ⟨hc, hw, Nat.zero_le _, Nat.zero_le _, Nat.two_pow_pos _, Nat.zero_testBit i⟩
    · rw [if_neg e, if_neg e, if_neg e, if_neg e, if_neg e]
      obtain ⟨p1, p2, p3, p4, p5, p6⟩ := hAS i (by omega)
      exact ⟨p1, p2, p3, p4, Nat.lt_of_lt_of_le p5 (Nat.pow_le_pow_right (by decide) (by omega)), p6⟩
  · clear a1 hCB hkB
    refine ⟨⟨?_, ?_, ?_, ?_, ?_, ?_⟩, fun k hk => ⟨?_, ?_, ?_, ?_, fun j hj => ?_⟩, fun i hi => ?_, fun i hi => ⟨?_, ?_⟩, fun h0 => ⟨?_, fun i hi => ?_⟩⟩
    case refine_1 =>
      rw [a4]
      simp (disch := omega) only [rg_sar, rg_sal, rg_srow, rg_srowl, ar_srg, ar_sal, ar_srowl, ar_s1, ar_s2, rg_s1, rg_s2]
      rw [m1]
      exact nI_add _ _
    case refine_7 =>
      have hk' : k < aS A + 1 := hk
      show _ = nI (if k = aS A then c else kd A k)
      rw [a6 _ (by omega) (fun q h3 h4 => by omega)]
      by_cases e : k = aS A
      · rw [if_pos e]
        simp (disch := omega) only [rg_sar, rg_sal, rg_srow, rg_srowl, ar_srg, ar_sal, ar_srowl, ar_s1, ar_s2, rg_s1, rg_s2]
      · rw [if_neg e]
        simp (disch := omega) only [rg_sar, rg_sal, rg_srow, rg_srowl, ar_srg, ar_sal, ar_srowl, ar_s1, ar_s2, rg_s1, rg_s2]
        exact (mS k (by omega)).1
    case refine_8 =>
      have hk' : k < aS A + 1 := hk
      show _ = nI (if k = aS A then w else vv A k)
      rw [a6 _ (by omega) (fun q h3 h4 => by omega)]
      by_cases e : k = aS A
      · rw [if_pos e]
        simp (disch := omega) only [rg_sar, rg_sal, rg_srow, rg_srowl, ar_srg, ar_sal, ar_srowl, ar_s1, ar_s2, rg_s1, rg_s2]
      · rw [if_neg e]
        simp (disch := omega) only [rg_sar, rg_sal, rg_srow, rg_srowl, ar_srg, ar_sal, ar_srowl, ar_s1, ar_s2, rg_s1, rg_s2]
        exact (mS k (by omega)).2.1
    case refine_9 =>
      have hk' : k < aS A + 1 := hk
      show _ = nI (if k = aS A then 0 else ii A k)
      rw [a6 _ (by omega) (fun q h3 h4 => by omega)]
      by_cases e : k = aS A
      · rw [if_pos e]
        simp (disch := omega) only [rg_sar, rg_sal, rg_srow, rg_srowl, ar_srg, ar_sal, ar_srowl, ar_s1, ar_s2, rg_s1, rg_s2]
      · rw [if_neg e]
        simp (disch := omega) only [rg_sar, rg_sal, rg_srow, rg_srowl, ar_srg, ar_sal, ar_srowl, ar_s1, ar_s2, rg_s1, rg_s2]
        exact (mS k (by omega)).2.2.1
    case refine_10 =>
      have hk' : k < aS A + 1 := hk
      show _ = nI (if k = aS A then 0 else oo A k)
      rw [a6 _ (by omega) (fun q h3 h4 => by omega)]
      by_cases e : k = aS A
      · rw [if_pos e]
        simp (disch := omega) only [rg_sar, rg_sal, rg_srow, rg_srowl, ar_srg, ar_sal, ar_srowl, ar_s1, ar_s2, rg_s1, rg_s2]
      · rw [if_neg e]
        simp (disch := omega) only [rg_sar, rg_sal, rg_srow, rg_srowl, ar_srg, ar_sal, ar_srowl, ar_s1, ar_s2, rg_s1, rg_s2]
        exact (mS k (by omega)).2.2.2.1
    case refine_11 =>
      have hk' : k < aS A + 1 := hk
      have hj' : j < aS A + 1 := hj
      show _ = if (if k = aS A then 0 else ld A k).testBit j = true then 1 else 0
      by_cases e : k = aS A
      · rw [if_pos e, Nat.zero_testBit, e, (a5 j (Nat.zero_le _) (by omega)).1]
        rfl
      · rw [if_neg e]
        obtain ⟨p1, p2, p3, p4, p5, p6⟩ := hAS k (by omega)
        by_cases e2 : j = aS A
        · rw [e2, (a5 k (Nat.zero_le _) (by omega)).2, Nat.testBit_lt_two_pow p5]
          rfl
        · rw [a6 _ (by omega) (fun q h3 h4 => by omega)]
          simp (disch := omega) only [rg_sar, rg_sal, rg_srow, rg_srowl, ar_srg, ar_sal, ar_srowl, ar_s1, ar_s2, rg_s1, rg_s2]
          exact (mS k (by omega)).2.2.2.2 j (by omega)
    all_goals rw [a6 _ (by omega) (fun q h3 h4 => by omega)]
    all_goals try have hi1 : i < aT A := hi
    all_goals try have hi2 : i < aZ A := hi
    all_goals simp (disch := omega) only [rg_sar, rg_sal, rg_srow, rg_srowl, ar_srg, ar_sal, ar_srowl, ar_s1, ar_s2, rg_s1, rg_s2]
    all_goals try (first | exact m1 | exact m2 | exact m3 | exact m4 | exact m5 | exact m6 | exact (mS k hk).1 | exact (mS k hk).2.1 | exact (mS k hk).2.2.1 | exact (mS k hk).2.2.2.1 | exact (mS k hk).2.2.2.2 j hj | exact mT i hi | exact (mZ i hi).1 | exact (mZ i hi).2 | exact (mW h0).1 | exact (mW h0).2 i hi)
theorem op_street {N : Nat} {σ : Sg} {A : Ab} (hN : 8 ≤ N) (hI : Inv A σ) (x y : Int32) : Ok2 (f_X6_street N x y) (f_X7_street N x y) σ := by
  obtain ⟨⟨hS7, hD99, hT100, hW5, hZ7⟩, hAS, hAT, hAZ, hAW, hAW0⟩ := id hI.1
  obtain ⟨-, hC, hM, hK, r, hr, r1, r2, r3⟩ := id hI
  obtain ⟨⟨c1, c2, c3, c4, c5⟩, cS, cT, cZ, cW⟩ := id hC
  obtain ⟨⟨m1, m2, m3, m4, m5, m6⟩, mS, mT, mZ, mW⟩ := id hM
  rcases i_cases x with h | ⟨c, hc, rfl⟩
  · unfold f_X6_street f_X7_street
    exact ⟨-1, σ, σ, A, if_T h rfl, bd2_k (x_in_lo h (by decide) _) (if_T n00 rfl), hI⟩
  by_cases hc6 : 6 < c
  · unfold f_X6_street f_X7_street
    exact ⟨-1, σ, σ, A, if_F (of_eq_false (ilt_F (Nat.zero_le _) hc)) (if_F (of_eq_false (ilt_F (by omega : 7 ≤ c) hc)) rfl), bd2_k (x_in_F (Or.inr hc6) hc (by decide) (by decide)) (if_T n00 rfl), hI⟩
  have hc6' := Nat.le_of_not_lt hc6
  rcases i_cases y with h | ⟨w, hw, rfl⟩
  · unfold f_X6_street f_X7_street
    exact ⟨-2, σ, σ, A, if_F (of_eq_false (ilt_F (Nat.zero_le _) hc)) (if_T (of_eq_true (ilt_T (by omega : c < 7) (by decide))) (if_T h rfl)), bd2_k (x_in_T (Nat.zero_le _) hc6' (by decide)) (if_F n10 (bd2_k (x_in_lo h (by decide) _) (if_T n00 rfl))), hI⟩
  by_cases hw9 : 9 < w
  · unfold f_X6_street f_X7_street
    exact ⟨-2, σ, σ, A, if_F (of_eq_false (ilt_F (Nat.zero_le _) hc)) (if_T (of_eq_true (ilt_T (by omega : c < 7) (by decide))) (if_F (of_eq_false (ilt_F (Nat.zero_le _) hw)) (if_F (of_eq_false (ile_F hw9 hw)) rfl))), bd2_k (x_in_T (Nat.zero_le _) hc6' (by decide)) (if_F n10 (bd2_k (x_in_F (Or.inr hw9) hw (by decide) (by decide)) (if_T n00 rfl))), hI⟩
  have hw9' := Nat.le_of_not_lt hw9
  by_cases hS : aS A = 7
  · unfold f_X6_street f_X7_street
    refine ⟨-4, σ, σ, A, if_F (of_eq_false (ilt_F (Nat.zero_le _) hc)) (if_T (of_eq_true (ilt_T (by omega : c < 7) (by decide))) (if_F (of_eq_false (ilt_F (Nat.zero_le _) hw)) (if_T (of_eq_true (ile_T hw9' (by decide))) (if_F ?_ rfl)))), bd2_k (x_in_T (Nat.zero_le _) hc6' (by decide)) (if_F n10 (bd2_k (x_in_T (Nat.zero_le _) hw9' (by decide)) (if_F n10 ?_))), hI⟩
    · rw [c1, hS]
      decide
    · simp (disch := omega) only [↓nm_eq, gd_t, bd_s, bd2_s, l_0, l_1, l_2, l_3, l_4, l_5, l_6, l_7, l_8, l_9, l_10, l_11, l_12, l_13, l_14, l_15, l_16, l_17, l_18, l_19, l_20, l_21, l_22, l_23, l_24, l_25, l_31, l_32, l_33, l_38, l_40, l_41, l_48, l_51, l_57, l_59, l_60, l_61, l_63, l_87, l_94, l_97, l_99, l_100, l_101, l_102, l_115, l_124, l_127, l_128, l_140, l_201, l_206, l_300, l_906, l_999, l_9999, l_1000000, l_252645135, l_858993459, l_1000000000, l_1431655765, nI_add, pk_mul, nI_clamp, inb_nI, ilt_T, ilt_F, ile_T, ile_F, ieq_T, ieq_F, nbz_0, nbz_1, rg_sar, ar_srg, ar_s1, ar_s2, rg_s1, rg_s2, neg_1, neg_2, ↓reduceIte, true_and, and_true, and_self, ite_true, ite_false, m1, hS]
  exact op_street1 hN hI hc6' hw9' (by omega)
