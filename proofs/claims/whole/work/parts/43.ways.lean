/-! the model's ways; way, stand -/
def F7 (D : Nat → Nat → Nat) (S o i0 j0 : Nat) (σ : Sg) : Prop := ∀ i j, i < S → j < S → ar σ 77 (7 * i + j) = nI (fE D o i0 j0 i j)
theorem x_fm111 {N S : Nat} {D : Nat → Nat → Nat} (hS7 : S ≤ 7) (hb : ∀ i j, D i j ≤ 1000000000) (k87 : Int32 → Sg → Option Sg) (k99 : Int32 → Int32 → Sg → Option Sg) {o i : Nat} (ho : o < S) (hi : i < S) : ∀ m n j σ, j + m = S → ar σ 61 0 = nI S → F7 D S o i j σ → ∃ σ', b_X7_looksForWays_111 N k87 k99 (n + m + 1) (nI o) (nI i) (nI j) σ = k99 (nI o) (nI (i + 1)) σ' ∧ OR 77 σ σ' ∧ F7 D S o (i + 1) 0 σ'
  | 0, n, j, σ, hj, h8, hF => by
    have e : j = S := by omega
    subst e
    have m1 : ar σ 61 (0 : Int32).toNatClampNeg = nI j := h8
    refine ⟨σ, ?_, OR.rf 77 σ, fun a b ha hb => by rw [hF a b ha hb, fE_end hb]⟩
    show b_X7_looksForWays_111b N k87 k99 (b_X7_looksForWays_111 N k87 k99 n) _ _ _ _ = _
    unfold b_X7_looksForWays_111b
    rw [m1]
    refine gd_k rfl (if_T (of_eq_true (ile_T (Nat.le_refl _) (by omega))) (nm_k ?_))
    rw [l_1, nI_add]
  | m + 1, n, j, σ, hj, h8, hF => by
    have hjS : j < S := by omega
    have m1 : ar σ 61 (0 : Int32).toNatClampNeg = nI S := h8
    have b1 := Nat.le_trans (fW_le D i o o) (hb i o)
    have b2 := Nat.le_trans (fW_le D o j o) (hb o j)
    have b3 := Nat.le_trans (fW_le D i j o) (hb i j)
    have o1 : OR 77 σ (sar σ 77 (7 * i + j) (nI (fW D (o + 1) i j))) := (OR.rf 77 σ).sar _ _
    have p1 := hF i o hi ho
    have p2 := hF o j ho hjS
    have p3 := hF i j hi hjS
    rw [fE_col] at p1
    rw [fE_row] at p2
    rw [fE_at] at p3
    obtain ⟨σ2, e2, o2, hF2⟩ := x_fm111 hS7 hb k87 k99 ho hi m n (j + 1) (sar σ 77 (7 * i + j) (nI (fW D (o + 1) i j))) (by omega) h8 (fun a b ha hb => by
      by_cases q : a = i ∧ b = j
      · obtain ⟨rfl, rfl⟩ := q
        rw [ar_s2 ⟨rfl, rfl⟩, fE_eq]
      · rw [ar_s1 (by omega), hF a b ha hb, fE_ne q])
    refine ⟨σ2, ?_, o1.tr o2, hF2⟩
    show b_X7_looksForWays_111b N k87 k99 (b_X7_looksForWays_111 N k87 k99 (n + m + 1)) _ _ _ _ = _
    unfold b_X7_looksForWays_111b b_X7_looksForWays_188
    rw [m1, l_7, pk_mul, pk_mul, nI_add, nI_add, nI_add, nI_clamp (by omega), nI_clamp (by omega), nI_clamp (by omega), p1, p2, p3, nI_add]
    refine gd_k rfl (if_F (of_eq_false (ile_F hjS (by omega))) (gd_k (inb_nI (by omega) (by decide)) (gd_k (inb_nI (by omega) (by decide)) (nm_k (gd_k (inb_nI (by omega) (by decide)) ?_)))))
    by_cases hle : fW D o i j ≤ fW D o i o + fW D o o j
    · have ev : fW D (o + 1) i j = fW D o i j := by rw [fW_s]; omega
      rw [ev] at e2
      refine if_T (of_eq_true (ile_T hle (by omega))) (gd_k (inb_nI (by omega) (by decide)) (gd_k (inb_nI (by omega) (by decide)) (nm_k (nm_k ?_))))
      rw [l_1, nI_add]
      exact e2
    · have ev : fW D (o + 1) i j = fW D o i o + fW D o o j := by rw [fW_s]; omega
      rw [ev] at e2
      refine if_F (of_eq_false (ile_F (by omega) (by omega))) (gd_k (inb_nI (by omega) (by decide)) (nm_k (nm_k ?_)))
      rw [l_1, nI_add]
      exact e2
theorem x_fm99 {N S : Nat} {D : Nat → Nat → Nat} (hS7 : S ≤ 7) (hb : ∀ i j, D i j ≤ 1000000000) (k87 : Int32 → Sg → Option Sg) {o : Nat} (ho : o < S) : ∀ m n i σ, i + m = S → ar σ 61 0 = nI S → F7 D S o i 0 σ → ∃ σ', b_X7_looksForWays_99 (N + 200) k87 (n + m + 1) (nI o) (nI i) σ = k87 (nI (o + 1)) σ' ∧ OR 77 σ σ' ∧ F7 D S (o + 1) 0 0 σ'
  | 0, n, i, σ, hj, h8, hF => by
    have e : i = S := by omega
    subst e
    have m1 : ar σ 61 (0 : Int32).toNatClampNeg = nI i := h8
    refine ⟨σ, ?_, OR.rf 77 σ, fun a b ha hb => by rw [hF a b ha hb, fE_nx ha]⟩
    show b_X7_looksForWays_99b (N + 200) k87 (b_X7_looksForWays_99 (N + 200) k87 n) _ _ _ = _
    unfold b_X7_looksForWays_99b
    rw [m1]
    refine gd_k rfl (if_T (of_eq_true (ile_T (Nat.le_refl _) (by omega))) (nm_k ?_))
    rw [l_1, nI_add]
  | m + 1, n, i, σ, hj, h8, hF => by
    have hi : i < S := by omega
    have m1 : ar σ 61 (0 : Int32).toNatClampNeg = nI S := h8
    obtain ⟨σ1, e1, o1, hF1⟩ := x_fm111 (N := N + 200) hS7 hb k87 (b_X7_looksForWays_99 (N + 200) k87 (n + m + 1)) ho hi S (N + 199 - S) 0 σ (by omega) h8 hF
    rw [show N + 199 - S + S + 1 = N + 200 by omega] at e1
    obtain ⟨σ2, e2, o2, hF2⟩ := x_fm99 hS7 hb k87 ho m n (i + 1) σ1 (by omega) (by rw [o1.2.2 61 (by decide)]; exact h8) hF1
    refine ⟨σ2, ?_, o1.tr o2, hF2⟩
    show b_X7_looksForWays_99b (N + 200) k87 (b_X7_looksForWays_99 (N + 200) k87 (n + m + 1)) _ _ _ = _
    unfold b_X7_looksForWays_99b
    rw [m1]
    exact gd_k rfl (if_F (of_eq_false (ile_F hi (by omega))) (e1.trans e2))
theorem x_fm87 {N S : Nat} {D : Nat → Nat → Nat} (hS7 : S ≤ 7) (hb : ∀ i j, D i j ≤ 1000000000) : ∀ m n o σ, o + m = S → ar σ 61 0 = nI S → F7 D S o 0 0 σ → ∃ σ', b_X7_looksForWays_87 (N + 200) (n + m + 1) (nI o) σ = some σ' ∧ OR 77 σ σ' ∧ ∀ i j, i < S → j < S → ar σ' 77 (7 * i + j) = nI (fW D S i j)
  | 0, n, o, σ, hj, h8, hF => by
    have e : o = S := by omega
    subst e
    have m1 : ar σ 61 (0 : Int32).toNatClampNeg = nI o := h8
    refine ⟨σ, ?_, OR.rf 77 σ, fun a b ha hb => by rw [hF a b ha hb, fE_0]⟩
    show b_X7_looksForWays_87b (N + 200) (b_X7_looksForWays_87 (N + 200) n) _ _ = _
    unfold b_X7_looksForWays_87b
    rw [m1]
    exact gd_k rfl (if_T (of_eq_true (ile_T (Nat.le_refl _) (by omega))) rfl)
  | m + 1, n, o, σ, hj, h8, hF => by
    have ho : o < S := by omega
    have m1 : ar σ 61 (0 : Int32).toNatClampNeg = nI S := h8
    obtain ⟨σ1, e1, o1, hF1⟩ := x_fm99 (N := N) hS7 hb (b_X7_looksForWays_87 (N + 200) (n + m + 1)) ho S (N + 199 - S) 0 σ (by omega) h8 hF
    rw [show N + 199 - S + S + 1 = N + 200 by omega] at e1
    obtain ⟨σ2, e2, o2, hF2⟩ := x_fm87 hS7 hb m n (o + 1) σ1 (by omega) (by rw [o1.2.2 61 (by decide)]; exact h8) hF1
    refine ⟨σ2, ?_, o1.tr o2, hF2⟩
    show b_X7_looksForWays_87b (N + 200) (b_X7_looksForWays_87 (N + 200) (n + m + 1)) _ _ = _
    unfold b_X7_looksForWays_87b
    rw [m1]
    exact gd_k rfl (if_F (of_eq_false (ile_F ho (by omega))) (e1.trans e2))
theorem opx_q {A : Ab} {i j : Nat} (hi : i < aS A) (hj : j < aS A) : opx A i j = opq A i j := by
  rw [opq_in hi hj]
  unfold opx
  rw [decide_eq_true hj]
  rfl
theorem x_lw18 {N : Nat} {A : Ab} (hA : AOK A) (k6 : Int32 → Sg → Option Sg) {i : Nat} (hi : i < aS A) : ∀ m n j σ, j + m = aS A → ar σ 61 0 = nI (aS A) → MR A σ i → ∃ σ', b_X7_looksForWays_18 N k6 (n + m + 1) (nI i) (nI j) σ = k6 (nI (i + 1)) σ' ∧ OR 77 σ σ' ∧ (∀ q, j ≤ q → q < aS A → ar σ' 77 (7 * i + q) = nI (dW (opq A) (ste A) 1000000000 i q)) ∧ ∀ x, (x < 7 * i + j ∨ 7 * i + 7 ≤ x) → ar σ' 77 x = ar σ 77 x
  | 0, n, j, σ, hj, h8, hR => by
    have hS7 := hA.1.1
    have e : j = aS A := by omega
    subst e
    have m1 : ar σ 61 (0 : Int32).toNatClampNeg = nI (aS A) := h8
    refine ⟨σ, ?_, OR.rf 77 σ, fun q h1 h2 => by omega, fun x _ => rfl⟩
    show b_X7_looksForWays_18b N k6 (b_X7_looksForWays_18 N k6 n) _ _ _ = _
    unfold b_X7_looksForWays_18b
    rw [m1]
    refine gd_k rfl (if_T (of_eq_true (ile_T (Nat.le_refl _) (by omega))) (nm_k ?_))
    rw [l_1, nI_add]
  | m + 1, n, j, σ, hj, h8, hR => by
    have hS7 := hA.1.1
    have hjS : j < aS A := by omega
    have m1 : ar σ 61 (0 : Int32).toNatClampNeg = nI (aS A) := h8
    obtain ⟨r1, r2, r3, r4⟩ := id hR
    have o1 : OR 77 σ (sar σ 77 (7 * i + j) (nI (dW (opq A) (ste A) 1000000000 i j))) := (OR.rf 77 σ).sar _ _
    obtain ⟨σ2, e2, o2, g2, g3⟩ := x_lw18 (N := N) hA k6 hi m n (j + 1) (sar σ 77 (7 * i + j) (nI (dW (opq A) (ste A) 1000000000 i j))) (by omega) h8 (by
      unfold MR
      rw [ar_sar_ne (by decide), ar_sar_ne (by decide), ar_sar_ne (by decide), ar_sar_ne (by decide)]
      exact hR)
    refine ⟨σ2, ?_, o1.tr o2, fun q h1 h2 => ?_, fun x hx => ?_⟩
    · show b_X7_looksForWays_18b N k6 (b_X7_looksForWays_18 N k6 (n + m + 1)) _ _ _ = _
      have go : ∀ (v : Int32), v = nI (dW (opq A) (ste A) 1000000000 i j) → b_X7_looksForWays_72 N k6 (b_X7_looksForWays_18 N k6 (n + m + 1)) (nI i) (nI j) (nI (7 * i + j)) v σ = k6 (nI (i + 1)) σ2 := by
        intro v hv
        unfold b_X7_looksForWays_72
        rw [nI_clamp (by omega), hv, l_1, nI_add]
        exact gd_k (inb_nI (by omega) (by decide)) (nm_k (nm_k e2))
      unfold b_X7_looksForWays_18b
      rw [m1, l_7, pk_mul, nI_add, nI_clamp (by omega), r4 j (by omega), opx_q hi hjS]
      refine gd_k rfl (if_F (of_eq_false (ile_F hjS (by omega))) ?_)
      by_cases hij : i = j
      · have ed : dW (opq A) (ste A) 1000000000 i j = 0 := if_pos hij
        refine if_T (by rw [hij]) (go _ ?_)
        rw [ed]
        rfl
      · refine if_F (of_eq_false (ieq_F hij (by omega) (by omega))) (gd_k (inb_nI (by omega) (by decide)) ?_)
        cases hb : opq A i j
        · refine if_T rfl (go _ ?_)
          rw [show dW (opq A) (ste A) 1000000000 i j = 1000000000 from (if_neg hij).trans (if_neg (by rw [hb]; decide))]
          rfl
        · refine if_F (by decide) (gd_k (inb_nI (by omega) (by decide)) (go _ ?_))
          rw [nI_clamp (by omega), r3, show dW (opq A) (ste A) 1000000000 i j = ste A i from (if_neg hij).trans (if_pos hb)]
    · by_cases hq : q = j
      · subst hq
        rw [g3 _ (by omega), ar_s2 ⟨rfl, rfl⟩]
      · exact g2 q (by omega) h2
    · rw [g3 x (by omega), ar_s1 (by omega)]
def MW (A : Ab) (σ : Sg) : Prop := ∀ i j, i < aS A → j < aS A → ar σ 77 (7 * i + j) = nI (wm A i j)
theorem x_lw6 {N : Nat} {A : Ab} (hA : AOK A) : ∀ m n i σ, i + m = aS A → ar σ 61 0 = nI (aS A) → (∀ a, a < aS A → MR A σ a) → (∀ a b, a < i → b < aS A → ar σ 77 (7 * a + b) = nI (dW (opq A) (ste A) 1000000000 a b)) → ∃ σ', b_X7_looksForWays_6 (N + 200) (n + m + 1) (nI i) σ = some σ' ∧ OR 77 σ σ' ∧ MW A σ'
  | 0, n, i, σ, hj, h8, hR, h77 => by
    have hS7 := hA.1.1
    have e : i = aS A := by omega
    subst e
    have m1 : ar σ 61 (0 : Int32).toNatClampNeg = nI (aS A) := h8
    have hst := ste_le hA
    obtain ⟨σ1, e1, o1, g1⟩ := x_fm87 (N := N) (S := aS A) (D := dW (opq A) (ste A) 1000000000) hS7 (dW_le (fun i => by have := hst i; omega)) (aS A) (N + 199 - aS A) 0 σ (by omega) h8 (fun a b ha hb => by rw [h77 a b ha hb, fE_0]; rfl)
    rw [show N + 199 - aS A + aS A + 1 = N + 200 by omega] at e1
    refine ⟨σ1, ?_, o1, g1⟩
    show b_X7_looksForWays_6b (N + 200) (b_X7_looksForWays_6 (N + 200) n) _ _ = _
    unfold b_X7_looksForWays_6b
    rw [m1]
    exact gd_k rfl (if_T (of_eq_true (ile_T (Nat.le_refl _) (by omega))) e1)
  | m + 1, n, i, σ, hj, h8, hR, h77 => by
    have hS7 := hA.1.1
    have hi : i < aS A := by omega
    have m1 : ar σ 61 (0 : Int32).toNatClampNeg = nI (aS A) := h8
    obtain ⟨σ3, e3, o3, g3, g4⟩ := x_lw18 (N := N + 200) hA (b_X7_looksForWays_6 (N + 200) (n + m + 1)) hi (aS A) (N + 199 - aS A) 0 σ (by omega) h8 (hR i hi)
    rw [show N + 199 - aS A + aS A + 1 = N + 200 by omega] at e3
    obtain ⟨σ4, e4, o4, c4⟩ := x_lw6 (N := N) hA m n (i + 1) σ3 (by omega) (by rw [o3.2.2 61 (by decide)]; exact h8) (fun a ha => by
      unfold MR
      rw [o3.2.2 73 (by decide), o3.2.2 74 (by decide), o3.2.2 75 (by decide), o3.2.2 76 (by decide)]
      exact hR a ha) (fun a b ha hb => by
      by_cases q : a = i
      · subst q
        exact g3 b (Nat.zero_le _) hb
      · rw [g4 _ (by omega)]
        exact h77 a b (by omega) hb)
    refine ⟨σ4, ?_, o3.tr o4, c4⟩
    show b_X7_looksForWays_6b (N + 200) (b_X7_looksForWays_6 (N + 200) (n + m + 1)) _ _ = _
    unfold b_X7_looksForWays_6b
    rw [m1]
    exact gd_k rfl (if_F (of_eq_false (ile_F hi (by omega))) (e3.trans e4))
theorem x_lfw {N : Nat} {σ : Sg} {A : Ab} (hA : AOK A) (hM : RM 61 A σ) : ∃ σ', f_X7_looksForWays (N + 200) σ = some σ' ∧ Sm σ σ' ∧ MW A σ' := by
  have hS7 := hA.1.1
  obtain ⟨σ1, e1, m1, g1⟩ := x_lfa (N := N) hA hM
  obtain ⟨σ2, e2, o2, g2⟩ := x_lw6 (N := N) hA (aS A) (N + 199 - aS A) 0 σ1 (by omega) (hM.smm m1).1.1 g1 (fun i _ hi => absurd hi (Nat.not_lt_zero i))
  rw [show N + 199 - aS A + aS A + 1 = N + 200 by omega] at e2
  exact ⟨σ2, bd_k e1 e2, m1.tr (o2.sm (by decide)), g2⟩
theorem op_way {N : Nat} {σ : Sg} {A : Ab} (hI : Inv A σ) (x y : Int32) : Ok2 (f_X6_way (N + 200) x y) (f_X7_way (N + 200) x y) σ := by
  obtain ⟨⟨hS7, hD99, hT100, hW5, hZ7⟩, hAS, hAT, hAZ, hAW, hAW0⟩ := id hI.1
  obtain ⟨-, hC, hM, hK, r, hr, r1, r2, r3⟩ := id hI
  obtain ⟨⟨c1, c2, c3, c4, c5⟩, cS, cT, cZ, cW⟩ := id hC
  obtain ⟨⟨m1, m2, m3, m4, m5, m6⟩, mS, mT, mZ, mW⟩ := id hM
  unfold f_X6_way f_X7_way
  rcases i_cases x with h | ⟨a, ha, rfl⟩
  · exact ⟨-1, σ, σ, A, bd2_k (x_both_F1 (x_has_lo h)) (if_T n00 rfl), bd2_k (x_isS_lo h) (if_T n00 rfl), hI⟩
  by_cases haS : aS A ≤ a
  · exact ⟨-1, σ, σ, A, bd2_k (x_both_F1 (x_has_F c1 hS7 haS ha)) (if_T n00 rfl), bd2_k (x_isS_F m1 hS7 haS ha) (if_T n00 rfl), hI⟩
  have haS' : a < aS A := by omega
  rcases i_cases y with h | ⟨b, hb, rfl⟩
  · exact ⟨-1, σ, σ, A, bd2_k (x_both_F2 (x_has_T c1 hS7 haS') (x_has_lo h)) (if_T n00 rfl), bd2_k (x_isS_T m1 hS7 haS') (if_F n10 (bd2_k (x_isS_lo h) (if_T n00 rfl))), hI⟩
  by_cases hbS : aS A ≤ b
  · exact ⟨-1, σ, σ, A, bd2_k (x_both_F2 (x_has_T c1 hS7 haS') (x_has_F c1 hS7 hbS hb)) (if_T n00 rfl), bd2_k (x_isS_T m1 hS7 haS') (if_F n10 (bd2_k (x_isS_F m1 hS7 hbS hb) (if_T n00 rfl))), hI⟩
  have hbS' : b < aS A := by omega
  obtain ⟨σ1, e1, s1, q1, q2, q3⟩ := x_load3 (N := N) hI.1 hC
  have hI1 := hI.sm s1
  obtain ⟨σ2, e2, s2, w2⟩ := x_lfw (N := N) hI.1 hI1.2.2.1
  have p1 := @x_price6 (N + 200) σ1 a b _ (by omega) (by omega) (q3 a b haS' hbS')
  have p2 := w2 a b haS' hbS'
  have hrel := wy_rel hI.1 haS' hbS'
  refine ⟨if wy A a b < 1000000 then nI (wy A a b) else -5, σ1, σ2, A, bd2_k (x_both_T c1 hS7 haS' hbS') (if_F n10 (bd_k e1 (bd2_k (?_ : f_X3_cheapestWay (N + 200) (nI a) (nI b) σ1 = some (if wy A a b < 1000000 then nI (wy A a b) else -5, σ1)) rfl))), bd2_k (x_isS_T hI1.2.2.1.1.1 hS7 haS') (if_F n10 (bd2_k (x_isS_T hI1.2.2.1.1.1 hS7 hbS') (if_F n10 (bd_k e2 ?_)))), hI1.sm s2⟩
  · unfold f_X3_cheapestWay
    refine bd2_k p1 ?_
    by_cases h : wy A a b < 1000000
    · rw [if_pos h]
      exact if_F (of_eq_false (ile_F h (by decide))) (bd2_k p1 rfl)
    · rw [if_neg h]
      exact if_T (of_eq_true (ile_T (by omega : 1000000 ≤ wy A a b) (by omega))) rfl
  · rw [l_7, pk_mul, nI_add, nI_clamp (by omega), p2]
    refine gd_k (inb_nI (by omega) (by decide)) ?_
    by_cases h : wy A a b < 1000000
    · rw [if_pos h]
      refine if_T (of_eq_true (ilt_T (by omega : wm A a b < 1000000000) (by decide))) (gd_k (inb_nI (by omega) (by decide)) ?_)
      rw [show wm A a b = wy A a b by omega]
    · rw [if_neg h]
      exact if_F (of_eq_false (ilt_F (by omega : 1000000000 ≤ wm A a b) (by omega))) rfl
/-! stand -/
def sC (A : Ab) (g p : Nat) : Nat → Nat
  | 0 => 0
  | j + 1 => if g.testBit j = true then sC A g p j + wy A p j else sC A g p j
def sM (A : Ab) (g p : Nat) : Nat → Nat
  | 0 => 0
  | j + 1 => if 1000000000 ≤ (if g.testBit j = true then wm A p j else 0) ∨ 1000000000 ≤ sM A g p j then 1000000000 else sM A g p j + (if g.testBit j = true then wm A p j else 0)
theorem s_rel {A : Ab} (hA : AOK A) (g : Nat) {p : Nat} (hp : p < aS A) : ∀ j, j ≤ aS A → (sC A g p j = sM A g p j ∧ sC A g p j ≤ 5946 * j) ∨ (1000000 ≤ sC A g p j ∧ sC A g p j ≤ 1000000 * j ∧ sM A g p j = 1000000000)
  | 0, _ => Or.inl ⟨rfl, Nat.le_refl _⟩
  | j + 1, hj => by
    have ih := s_rel hA g hp j (by omega)
    have hr := wy_rel hA hp (show j < aS A by omega)
    have hS7 := hA.1.1
    have e1 : sC A g p (j + 1) = if g.testBit j = true then sC A g p j + wy A p j else sC A g p j := rfl
    have e2 : sM A g p (j + 1) = if 1000000000 ≤ (if g.testBit j = true then wm A p j else 0) ∨ 1000000000 ≤ sM A g p j then 1000000000 else sM A g p j + (if g.testBit j = true then wm A p j else 0) := rfl
    rw [e1, e2]
    generalize sC A g p j = a at *
    generalize sM A g p j = b at *
    by_cases ht : g.testBit j = true
    · rw [if_pos ht, if_pos ht]
      split <;> omega
    · rw [if_neg ht, if_neg ht]
      split <;> omega
theorem s_big {A : Ab} (hA : AOK A) (g : Nat) {p : Nat} (hp : p < aS A) (j : Nat) (hj : j ≤ aS A) : sC A g p j ≤ 7000000 ∧ sM A g p j ≤ 1000000000 := by
  have := s_rel hA g hp j hj
  have hS7 := hA.1.1
  omega
def bst (f : Nat → Nat) (big : Nat) : Nat → Int32 × Nat
  | 0 => (-5, big)
  | p + 1 => if f p < (bst f big p).2 then (nI p, f p) else bst f big p
theorem bst_rel {A : Ab} (hA : AOK A) (g : Nat) : ∀ p, p ≤ aS A → (bst (fun p => sC A g p (aS A)) 1000000 p).1 = (bst (fun p => sM A g p (aS A)) 1000000000 p).1 ∧ (((bst (fun p => sC A g p (aS A)) 1000000 p).2 = (bst (fun p => sM A g p (aS A)) 1000000000 p).2 ∧ (bst (fun p => sC A g p (aS A)) 1000000 p).2 < 1000000) ∨ ((bst (fun p => sC A g p (aS A)) 1000000 p).2 = 1000000 ∧ (bst (fun p => sM A g p (aS A)) 1000000000 p).2 = 1000000000))
  | 0, _ => ⟨rfl, Or.inr ⟨rfl, rfl⟩⟩
  | p + 1, hp => by
    obtain ⟨i1, i2⟩ := bst_rel hA g p (by omega)
    have hr := s_rel hA g (show p < aS A by omega) (aS A) (Nat.le_refl _)
    have hS7 := hA.1.1
    have e1 : bst (fun p => sC A g p (aS A)) 1000000 (p + 1) = if sC A g p (aS A) < (bst (fun p => sC A g p (aS A)) 1000000 p).2 then (nI p, sC A g p (aS A)) else bst (fun p => sC A g p (aS A)) 1000000 p := rfl
    have e2 : bst (fun p => sM A g p (aS A)) 1000000000 (p + 1) = if sM A g p (aS A) < (bst (fun p => sM A g p (aS A)) 1000000000 p).2 then (nI p, sM A g p (aS A)) else bst (fun p => sM A g p (aS A)) 1000000000 p := rfl
    rw [e1, e2]
    by_cases h : sC A g p (aS A) < (bst (fun p => sC A g p (aS A)) 1000000 p).2
    · rw [if_pos h, if_pos (by omega)]
      refine ⟨rfl, Or.inl ⟨?_, ?_⟩⟩
      · show sC A g p (aS A) = sM A g p (aS A)
        omega
      · show sC A g p (aS A) < 1000000
        omega
    · rw [if_neg h, if_neg (by omega)]
      exact ⟨i1, i2⟩
theorem bst_le (f : Nat → Nat) (big : Nat) : ∀ p, (bst f big p).2 ≤ big
  | 0 => Nat.le_refl _
  | p + 1 => by
    have := bst_le f big p
    show (if f p < (bst f big p).2 then (nI p, f p) else bst f big p).2 ≤ big
    split
    next h => show f p ≤ big; omega
    next => exact this
theorem x_bp24 {N : Nat} {A : Ab} {σ : Sg} (hA : AOK A) (hR : CR A σ) (k9 : Int32 → Int32 → Int32 → Int32 → Sg → Option (Int32 × Sg)) {g p : Nat} {best : Int32} {least : Nat} (hg : g < 128) (hp : p < aS A) (hl : least ≤ 1000000) : ∀ m n j, j + m = aS A → b_X3_bestPlace_24 N k9 (n + m + 1) (nI g) best (nI least) (nI p) (nI (sC A g p j)) (nI j) σ = (if sC A g p (aS A) < least then k9 (nI g) (nI p) (nI (sC A g p (aS A))) (nI (p + 1)) σ else k9 (nI g) best (nI least) (nI (p + 1)) σ)
  | 0, n, j, hj => by
    have hS7 := hA.1.1
    have e : j = aS A := by omega
    subst e
    have hb := (s_big hA g hp (aS A) (Nat.le_refl _)).1
    show b_X3_bestPlace_24b N k9 (b_X3_bestPlace_24 N k9 n) _ _ _ _ _ _ _ = _
    unfold b_X3_bestPlace_24b b_X3_bestPlace_74
    rw [hR.1, l_1, nI_add]
    refine if_T (of_eq_true (ile_T (Nat.le_refl _) (by omega))) ?_
    by_cases h : sC A g p (aS A) < least
    · rw [if_pos h]
      exact if_F (of_eq_false (ile_F h (by omega))) rfl
    · rw [if_neg h]
      exact if_T (of_eq_true (ile_T (by omega) (by omega))) rfl
  | m + 1, n, j, hj => by
    have hS7 := hA.1.1
    have hjS : j < aS A := by omega
    have ih := x_bp24 (N := N) hA hR k9 (g := g) (p := p) (best := best) (least := least) hg hp hl m n (j + 1) (by omega)
    have e1 : sC A g p (j + 1) = if g.testBit j = true then sC A g p j + wy A p j else sC A g p j := rfl
    rw [e1] at ih
    show b_X3_bestPlace_24b N k9 (b_X3_bestPlace_24 N k9 (n + m + 1)) _ _ _ _ _ _ _ = _
    unfold b_X3_bestPlace_24b b_X3_bestPlace_56
    rw [hR.1, l_31, l_1, bit_1 _ hg j (by omega), nI_add]
    refine if_F (of_eq_false (ile_F hjS (by omega))) ?_
    cases hb : g.testBit j
    · rw [hb, if_neg Bool.false_ne_true] at ih
      exact if_F (by decide) (nm_k ih)
    · rw [hb, if_pos rfl] at ih
      refine if_T rfl (bd2_k (x_price6 (by omega) (by omega) (hR.2.2 p j hp hjS)) (nm_k (nm_k ?_)))
      rw [nI_add]
      exact ih
theorem x_bp9 {N : Nat} {A : Ab} {σ : Sg} (hA : AOK A) (hR : CR A σ) {g : Nat} (hg : g < 128) : ∀ m n p, p + m = aS A → b_X3_bestPlace_9 (N + 200) (n + m + 1) (nI g) (bst (fun p => sC A g p (aS A)) 1000000 p).1 (nI (bst (fun p => sC A g p (aS A)) 1000000 p).2) (nI p) σ = some ((bst (fun p => sC A g p (aS A)) 1000000 (aS A)).1, σ)
  | 0, n, p, hj => by
    have hS7 := hA.1.1
    have e : p = aS A := by omega
    subst e
    show b_X3_bestPlace_9b (N + 200) (b_X3_bestPlace_9 (N + 200) n) _ _ _ _ _ = _
    unfold b_X3_bestPlace_9b
    rw [hR.1]
    exact if_T (of_eq_true (ile_T (Nat.le_refl _) (by omega))) rfl
  | m + 1, n, p, hj => by
    have hS7 := hA.1.1
    have hp : p < aS A := by omega
    have ih := x_bp9 (N := N) hA hR hg m n (p + 1) (by omega)
    have e1 : bst (fun p => sC A g p (aS A)) 1000000 (p + 1) = if sC A g p (aS A) < (bst (fun p => sC A g p (aS A)) 1000000 p).2 then (nI p, sC A g p (aS A)) else bst (fun p => sC A g p (aS A)) 1000000 p := rfl
    have k := x_bp24 (N := N + 200) hA hR (b_X3_bestPlace_9 (N + 200) (n + m + 1)) (best := (bst (fun p => sC A g p (aS A)) 1000000 p).1) hg hp (bst_le (fun p => sC A g p (aS A)) 1000000 p) (aS A) (N + 199 - aS A) 0 (by omega)
    rw [show N + 199 - aS A + aS A + 1 = N + 200 by omega] at k
    show b_X3_bestPlace_9b (N + 200) (b_X3_bestPlace_9 (N + 200) (n + m + 1)) _ _ _ _ _ = _
    unfold b_X3_bestPlace_9b
    rw [hR.1]
    refine if_F (of_eq_false (ile_F hp (by omega))) (k.trans ?_)
    rw [e1] at ih
    by_cases h : sC A g p (aS A) < (bst (fun p => sC A g p (aS A)) 1000000 p).2
    · rw [if_pos h] at ih ⊢
      exact ih
    · rw [if_neg h] at ih ⊢
      exact ih
theorem x_sd35 {N : Nat} {A : Ab} {σ : Sg} (hA : AOK A) (h61 : ar σ 61 0 = nI (aS A)) (hW : MW A σ) (k18 : Int32 → Int32 → Int32 → Int32 → Sg → Option (Int32 × Sg)) {g p : Nat} {best : Int32} {least : Nat} (hg : g < 128) (hp : p < aS A) (hl : least ≤ 1000000000) : ∀ m n j, j + m = aS A → b_X7_stand_35 N k18 (n + m + 1) (nI g) best (nI least) (nI p) (nI (sM A g p j)) (nI j) σ = (if sM A g p (aS A) < least then k18 (nI g) (nI p) (nI (sM A g p (aS A))) (nI (p + 1)) σ else k18 (nI g) best (nI least) (nI (p + 1)) σ)
  | 0, n, j, hj => by
    have hS7 := hA.1.1
    have m1 : ar σ 61 (0 : Int32).toNatClampNeg = nI (aS A) := h61
    have e : j = aS A := by omega
    subst e
    have hb := (s_big hA g hp (aS A) (Nat.le_refl _)).2
    show b_X7_stand_35b N k18 (b_X7_stand_35 N k18 n) _ _ _ _ _ _ _ = _
    unfold b_X7_stand_35b b_X7_stand_119 b_X7_stand_132
    rw [m1, l_1, nI_add]
    refine gd_k rfl (if_T (of_eq_true (ile_T (Nat.le_refl _) (by omega))) ?_)
    by_cases h : sM A g p (aS A) < least
    · rw [if_pos h]
      exact if_F (of_eq_false (ile_F h (by omega))) (if_F (of_eq_false (ile_F h (by omega))) rfl)
    · rw [if_neg h]
      exact if_T (of_eq_true (ile_T (by omega) (by omega))) (if_T (of_eq_true (ile_T (by omega) (by omega))) rfl)
  | m + 1, n, j, hj => by
    have hS7 := hA.1.1
    have m1 : ar σ 61 (0 : Int32).toNatClampNeg = nI (aS A) := h61
    have hjS : j < aS A := by omega
    have hb := (s_big hA g hp j (by omega)).2
    have hr := wy_rel hA hp hjS
    have ih := x_sd35 (N := N) hA h61 hW k18 (g := g) (p := p) (best := best) (least := least) hg hp hl m n (j + 1) (by omega)
    have e1 : sM A g p (j + 1) = if 1000000000 ≤ (if g.testBit j = true then wm A p j else 0) ∨ 1000000000 ≤ sM A g p j then 1000000000 else sM A g p j + (if g.testBit j = true then wm A p j else 0) := rfl
    rw [e1] at ih
    have go : ∀ w : Nat, w = (if g.testBit j = true then wm A p j else 0) → b_X7_stand_73 N k18 (b_X7_stand_35 N k18 (n + m + 1)) (nI g) best (nI least) (nI p) (nI (sM A g p j)) (nI j) (nI w) σ = (if sM A g p (aS A) < least then k18 (nI g) (nI p) (nI (sM A g p (aS A))) (nI (p + 1)) σ else k18 (nI g) best (nI least) (nI (p + 1)) σ) := by
      intro w hw
      have hw9 : w ≤ 1000000000 := by
        rw [hw]
        split <;> omega
      rw [← hw] at ih
      unfold b_X7_stand_73 b_X7_stand_89 b_X7_stand_99
      rw [l_1, nI_add, nI_add]
      by_cases h1 : 1000000000 ≤ w
      · rw [if_pos (Or.inl h1)] at ih
        exact if_T (of_eq_true (ile_T h1 (by omega))) (nm_k ih)
      · refine if_F (of_eq_false (ile_F (Nat.lt_of_not_le h1) (by decide))) ?_
        by_cases h2 : 1000000000 ≤ sM A g p j
        · rw [if_pos (Or.inr h2)] at ih
          exact if_F (of_eq_false (ilt_F h2 (by omega))) (nm_k ih)
        · rw [if_neg (by omega)] at ih
          exact if_T (of_eq_true (ilt_T (Nat.lt_of_not_le h2) (by decide))) (nm_k ih)
    show b_X7_stand_35b N k18 (b_X7_stand_35 N k18 (n + m + 1)) _ _ _ _ _ _ _ = _
    unfold b_X7_stand_35b
    rw [m1, l_31, l_1, bit_1 _ hg j (by omega), l_7, pk_mul, nI_add, nI_clamp (by omega), hW p j hp hjS]
    refine gd_k rfl (if_F (of_eq_false (ile_F hjS (by omega))) ?_)
    cases hb : g.testBit j
    · exact if_F (by decide) (go 0 (by rw [hb]; rfl))
    · exact if_T rfl (gd_k (inb_nI (by omega) (by decide)) (go _ (by rw [hb]; rfl)))
theorem x_sd18 {N : Nat} {A : Ab} {σ : Sg} (hA : AOK A) (h61 : ar σ 61 0 = nI (aS A)) (hW : MW A σ) {g : Nat} (hg : g < 128) : ∀ m n p, p + m = aS A → b_X7_stand_18 (N + 200) (n + m + 1) (nI g) (bst (fun p => sM A g p (aS A)) 1000000000 p).1 (nI (bst (fun p => sM A g p (aS A)) 1000000000 p).2) (nI p) σ = some ((bst (fun p => sM A g p (aS A)) 1000000000 (aS A)).1, σ)
  | 0, n, p, hj => by
    have hS7 := hA.1.1
    have m1 : ar σ 61 (0 : Int32).toNatClampNeg = nI (aS A) := h61
    have e : p = aS A := by omega
    subst e
    show b_X7_stand_18b (N + 200) (b_X7_stand_18 (N + 200) n) _ _ _ _ _ = _
    unfold b_X7_stand_18b
    rw [m1]
    exact gd_k rfl (if_T (of_eq_true (ile_T (Nat.le_refl _) (by omega))) rfl)
  | m + 1, n, p, hj => by
    have hS7 := hA.1.1
    have m1 : ar σ 61 (0 : Int32).toNatClampNeg = nI (aS A) := h61
    have hp : p < aS A := by omega
    have ih := x_sd18 (N := N) hA h61 hW hg m n (p + 1) (by omega)
    have e1 : bst (fun p => sM A g p (aS A)) 1000000000 (p + 1) = if sM A g p (aS A) < (bst (fun p => sM A g p (aS A)) 1000000000 p).2 then (nI p, sM A g p (aS A)) else bst (fun p => sM A g p (aS A)) 1000000000 p := rfl
    have k := x_sd35 (N := N + 200) hA h61 hW (b_X7_stand_18 (N + 200) (n + m + 1)) (best := (bst (fun p => sM A g p (aS A)) 1000000000 p).1) hg hp (bst_le (fun p => sM A g p (aS A)) 1000000000 p) (aS A) (N + 199 - aS A) 0 (by omega)
    rw [show N + 199 - aS A + aS A + 1 = N + 200 by omega] at k
    show b_X7_stand_18b (N + 200) (b_X7_stand_18 (N + 200) (n + m + 1)) _ _ _ _ _ = _
    unfold b_X7_stand_18b
    rw [m1]
    refine gd_k rfl (if_F (of_eq_false (ile_F hp (by omega))) (k.trans ?_))
    rw [e1] at ih
    by_cases h : sM A g p (aS A) < (bst (fun p => sM A g p (aS A)) 1000000000 p).2
    · rw [if_pos h] at ih ⊢
      exact ih
    · rw [if_neg h] at ih ⊢
      exact ih
theorem CR.o30 {A : Ab} {σ σ' : Sg} (h : CR A σ) (o : O30 σ σ') : CR A σ' := by
  unfold CR
  rw [o.1, o.2.2 54 (by decide), o.2.2 55 (by decide)]
  exact h
theorem op_stand {N : Nat} {σ : Sg} {A : Ab} (hI : Inv A σ) : Ok2 (f_X6_stand (N + 200)) (f_X7_stand (N + 200)) σ := by
  have hS7 := hI.1.1.1
  obtain ⟨σ1, e1, s1, q1⟩ := x_load3 (N := N) hI.1 hI.2.1
  have hI1 := hI.sm s1
  obtain ⟨σ2, e2, o2⟩ := x_paying6 (N := N) hI.1 hI1.2.1
  have hI2 := hI1.sm o2.sm
  have hg : paS A < 128 := p2_le hS7 (setB_lt _ _)
  have k1 := x_bp9 (N := N) hI.1 (q1.o30 o2) hg (aS A) (N + 199 - aS A) 0 (by omega)
  rw [show N + 199 - aS A + aS A + 1 = N + 200 by omega] at k1
  obtain ⟨σ3, e3, o3⟩ := x_paying7 (N := N) hI.1 hI2.2.2.1
  have hI3 := hI2.sm o3.sm
  obtain ⟨σ4, e4, s4, w4⟩ := x_lfw (N := N) hI.1 hI3.2.2.1
  have hI4 := hI3.sm s4
  have k2 := x_sd18 (N := N) hI.1 hI4.2.2.1.1.1 w4 hg (aS A) (N + 199 - aS A) 0 (by omega)
  rw [show N + 199 - aS A + aS A + 1 = N + 200 by omega] at k2
  unfold f_X6_stand f_X7_stand
  refine ⟨_, σ2, σ4, A, bd_k e1 (bd2_k e2 (bd2_k k1 rfl)), bd2_k e3 (bd_k e4 (k2.trans ?_)), hI4⟩
  rw [(bst_rel hI.1 (paS A) (aS A) (Nat.le_refl _)).1]
