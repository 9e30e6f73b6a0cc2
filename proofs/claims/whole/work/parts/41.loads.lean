/-! what is loaded ahead of a question: by the class's balance, by the model -/
def OR (a : Nat) (σ σ' : Sg) : Prop := rg σ' = rg σ ∧ al σ' = al σ ∧ ∀ k, k ≠ a → ar σ' k = ar σ k
theorem OR.rf (a : Nat) (σ : Sg) : OR a σ σ := ⟨rfl, rfl, fun _ _ => rfl⟩
theorem OR.tr {n : Nat} {a b c : Sg} (h : OR n a b) (g : OR n b c) : OR n a c := ⟨g.1.trans h.1, g.2.1.trans h.2.1, fun k hk => (g.2.2 k hk).trans (h.2.2 k hk)⟩
theorem OR.sar {n : Nat} {a b : Sg} (h : OR n a b) (j : Nat) (v : Int32) : OR n a (sar b n j v) := ⟨h.1, h.2.1, fun k hk => (ar_sar_ne hk).trans (h.2.2 k hk)⟩
theorem OR.sm {n : Nat} {a b : Sg} (h : OR n a b) (hn : cA n = false) : Sm a b := ⟨fun k j _ => by rw [h.1], fun k hk => h.2.2 k (fun q => by subst q; rw [hn] at hk; cases hk)⟩
theorem RC.smc {A : Ab} {σ σ' : Sg} (h : RC 1 10 3 26 A σ) (g : Sm σ σ') : RC 1 10 3 26 A σ' := h.sm g (by omega)
theorem RM.smm {A : Ab} {σ σ' : Sg} (h : RM 61 A σ) (g : Sm σ σ') : RM 61 A σ' := h.same (g.2 61 (by decide))
/-- the balance's rows -/
def BR (A : Ab) (σ : Sg) (i : Nat) : Prop := ar σ 42 i = nI (opS A i) ∧ ar σ 43 i = nI (alw A i) ∧ ar σ 44 i = nI (ii A i) - nI (oo A i) ∧ ar σ 45 i = nI (fin A i) ∧ ar σ 46 i = nI (ste A i)
theorem x_load1l {N : Nat} {A : Ab} (hA : AOK A) : ∀ m n j σ, j + m = aS A → RC 1 10 3 26 A σ → rg σ 7 0 = nI (aS A) → (∀ i, i < j → BR A σ i) → ∃ σ', b_X1_load_10 (N + 200) (n + m + 1) (nI j) σ = some σ' ∧ Sm σ σ' ∧ rg σ' 7 0 = nI (aS A) ∧ ∀ i, i < aS A → BR A σ' i
  | 0, n, j, σ, hj, hC, h7, hB => by
    have hS7 := hA.1.1
    have e : j = aS A := by omega
    subst e
    refine ⟨σ, ?_, Sm.rf σ, h7, hB⟩
    show b_X1_load_10b (N + 200) (b_X1_load_10 (N + 200) n) _ _ = _
    unfold b_X1_load_10b
    rw [h7]
    exact if_T (of_eq_true (ile_T (Nat.le_refl _) (by omega))) rfl
  | m + 1, n, j, σ, hj, hC, h7, hB => by
    have hS7 := hA.1.1
    have hjS : j < aS A := by omega
    have m1 : Sm σ (sar σ 42 j (nI (opS A j))) := (Sm.rf σ).sar j _ (by decide)
    have hC1 := hC.smc m1
    obtain ⟨σ2, e2, o2⟩ := x_al6 (N := N) hA hC1 hjS
    have m3 : Sm σ (sar σ2 43 j (nI (alw A j))) := (m1.tr o2.sm).sar j _ (by decide)
    have m4 : Sm σ (sar (sar σ2 43 j (nI (alw A j))) 44 j (nI (ii A j) - nI (oo A j))) := m3.sar j _ (by decide)
    have hC4 := hC.smc m4
    obtain ⟨σ5, e5, o5⟩ := x_fi6 (N := N) hA hC4 hjS
    have m6 : Sm σ (sar σ5 45 j (nI (fin A j))) := (m4.tr o5.sm).sar j _ (by decide)
    have hC6 := hC.smc m6
    obtain ⟨σ7, e7, o7⟩ := x_st6 (N := N) hA hC6 hjS
    have m8 : Sm σ (sar σ7 46 j (nI (ste A j))) := (m6.tr o7.sm).sar j _ (by decide)
    have hrg : rg (sar σ7 46 j (nI (ste A j))) = rg σ := by
      show rg σ7 = rg σ
      rw [o7.1]
      show rg σ5 = rg σ
      rw [o5.1]
      show rg σ2 = rg σ
      rw [o2.1]
      rfl
    have hrow : ∀ i, BR A (sar σ7 46 j (nI (ste A j))) i ↔ (if i = j then nI (opS A j) else ar σ 42 i) = nI (opS A i) ∧ (if i = j then nI (alw A j) else ar σ 43 i) = nI (alw A i) ∧ (if i = j then nI (ii A j) - nI (oo A j) else ar σ 44 i) = nI (ii A i) - nI (oo A i) ∧ (if i = j then nI (fin A j) else ar σ 45 i) = nI (fin A i) ∧ (if i = j then nI (ste A j) else ar σ 46 i) = nI (ste A i) := by
      intro i
      unfold BR
      have q42 : ar (sar σ7 46 j (nI (ste A j))) 42 i = if i = j then nI (opS A j) else ar σ 42 i := by
        rw [ar_sar_ne (by decide), o7.2.2 _ (by decide), ar_sar_ne (by decide), o5.2.2 _ (by decide), ar_sar_ne (by decide), ar_sar_ne (by decide), o2.2.2 _ (by decide), ar_sar]
        simp only [true_and]
      have q43 : ar (sar σ7 46 j (nI (ste A j))) 43 i = if i = j then nI (alw A j) else ar σ 43 i := by
        rw [ar_sar_ne (by decide), o7.2.2 _ (by decide), ar_sar_ne (by decide), o5.2.2 _ (by decide), ar_sar_ne (by decide), ar_sar, o2.2.2 _ (by decide), ar_sar_ne (by decide)]
        simp only [true_and]
      have q44 : ar (sar σ7 46 j (nI (ste A j))) 44 i = if i = j then nI (ii A j) - nI (oo A j) else ar σ 44 i := by
        rw [ar_sar_ne (by decide), o7.2.2 _ (by decide), ar_sar_ne (by decide), o5.2.2 _ (by decide), ar_sar, ar_sar_ne (by decide), o2.2.2 _ (by decide), ar_sar_ne (by decide)]
        simp only [true_and]
      have q45 : ar (sar σ7 46 j (nI (ste A j))) 45 i = if i = j then nI (fin A j) else ar σ 45 i := by
        rw [ar_sar_ne (by decide), o7.2.2 _ (by decide), ar_sar, o5.2.2 _ (by decide), ar_sar_ne (by decide), ar_sar_ne (by decide), o2.2.2 _ (by decide), ar_sar_ne (by decide)]
        simp only [true_and]
      have q46 : ar (sar σ7 46 j (nI (ste A j))) 46 i = if i = j then nI (ste A j) else ar σ 46 i := by
        rw [ar_sar, o7.2.2 _ (by decide), ar_sar_ne (by decide), o5.2.2 _ (by decide), ar_sar_ne (by decide), ar_sar_ne (by decide), o2.2.2 _ (by decide), ar_sar_ne (by decide)]
        simp only [true_and]
      rw [q42, q43, q44, q45, q46]
    obtain ⟨σ9, e9, m9, h9, hB9⟩ := x_load1l (N := N) hA m n (j + 1) (sar σ7 46 j (nI (ste A j))) (by omega) (hC.smc m8) (by rw [hrg]; exact h7) (fun i hi => by
      rw [hrow]
      by_cases q : i = j
      · subst q
        simp only [if_pos]
        exact ⟨trivial, trivial, trivial, trivial, trivial⟩
      · simp only [if_neg q]
        exact hB i (by omega))
    refine ⟨σ9, ?_, m8.tr m9, h9, hB9⟩
    show b_X1_load_10b (N + 200) (b_X1_load_10 (N + 200) (n + m + 1)) _ _ = _
    unfold b_X1_load_10b
    rw [h7]
    refine if_F (of_eq_false (ile_F hjS (by omega))) (bd2_k (x_from6 (N := N + 192) hA hC hjS) (gd_k (inb_nI (by omega) (by decide)) (nm_k ?_)))
    rw [nI_clamp (by omega)]
    refine bd2_k e2 (gd_k (inb_nI (by omega) (by decide)) (nm_k (bd2_k (x_unev6 hA (hC.smc m3) hjS) (gd_k (inb_nI (by omega) (by decide)) (nm_k (bd2_k e5 (gd_k (inb_nI (by omega) (by decide)) (nm_k (bd2_k e7 (gd_k (inb_nI (by omega) (by decide)) (nm_k (nm_k ?_))))))))))))
    rw [l_1, nI_add]
    exact e9
theorem x_load1 {N : Nat} {σ : Sg} {A : Ab} (hA : AOK A) (hC : RC 1 10 3 26 A σ) : ∃ σ', f_X1_load (N + 200) σ = some σ' ∧ Sm σ σ' ∧ rg σ' 7 0 = nI (aS A) ∧ ∀ i, i < aS A → BR A σ' i := by
  have hS7 := hA.1.1
  have m1 : Sm σ (srg σ 7 0 (nI (aS A))) := (Sm.rf σ).srg _ (by decide)
  obtain ⟨σ', e, m2, h7, hB⟩ := x_load1l (N := N) hA (aS A) (N + 199 - aS A) 0 (srg σ 7 0 (nI (aS A))) (by omega) (hC.smc m1) (rg_s2 ⟨rfl, rfl⟩) (fun i hi => absurd hi (Nat.not_lt_zero i))
  rw [show N + 199 - aS A + aS A + 1 = N + 200 by omega] at e
  refine ⟨σ', ?_, m1.tr m2, h7, hB⟩
  unfold f_X1_load
  refine nm_k ?_
  rw [hC.1.1]
  exact e
/-- the model's rows -/
def opx (A : Ab) (k j : Nat) : Bool := decide (j < aS A) && opB A k j
def MR (A : Ab) (σ : Sg) (i : Nat) : Prop := ar σ 73 i = nI (alw A i) ∧ ar σ 74 i = nI (fin A i) ∧ ar σ 75 i = nI (ste A i) ∧ ∀ j, j < 7 → ar σ 76 (7 * i + j) = nI (opx A i j).toNat
theorem x_lfa_in {N : Nat} {A : Ab} (hA : AOK A) {k : Nat} (hk : k < aS A) (k2 : Int32 → Sg → Option Sg) : ∀ m n j σ, j + m = 7 → RM 61 A σ → ∃ σ', b_X7_looksForAll_47 N k2 (n + m + 1) (nI k) (nI j) σ = k2 (nI (k + 1)) σ' ∧ OR 76 σ σ' ∧ (∀ q, j ≤ q → q < 7 → ar σ' 76 (7 * k + q) = nI (opx A k q).toNat) ∧ ∀ i, (i < 7 * k + j ∨ 7 * k + 7 ≤ i) → ar σ' 76 i = ar σ 76 i
  | 0, n, j, σ, hj, hM => by
    have e : j = 7 := by omega
    subst e
    refine ⟨σ, ?_, OR.rf 76 σ, fun q h1 h2 => by omega, fun i hi => rfl⟩
    show b_X7_looksForAll_47b N k2 (b_X7_looksForAll_47 N k2 n) _ _ _ = _
    unfold b_X7_looksForAll_47b
    refine if_T (of_eq_true (ile_T (Nat.le_refl 7) (by decide))) (nm_k ?_)
    rw [l_1, nI_add]
  | m + 1, n, j, σ, hj, hM => by
    have hS7 := hA.1.1
    have m1 : ar σ 61 (0 : Int32).toNatClampNeg = nI (aS A) := hM.1.1
    have o1 : OR 76 σ (sar σ 76 (7 * k + j) (nI (opx A k j).toNat)) := (OR.rf 76 σ).sar _ _
    obtain ⟨σ2, e2, o2, h2, h3⟩ := x_lfa_in (N := N) hA hk k2 m n (j + 1) (sar σ 76 (7 * k + j) (nI (opx A k j).toNat)) (by omega) (hM.smm (o1.sm (by decide)))
    refine ⟨σ2, ?_, o1.tr o2, fun q g1 g2 => ?_, fun i hi => ?_⟩
    · show b_X7_looksForAll_47b N k2 (b_X7_looksForAll_47 N k2 (n + m + 1)) _ _ _ = _
      have go : ∀ (b : Bool) (s : Int32), vp_nar .boolean s = nI b.toNat → b = opx A k j → b_X7_looksForAll_87 N k2 (b_X7_looksForAll_47 N k2 (n + m + 1)) (nI k) (nI j) (nI (7 * k + j)) s σ = k2 (nI (k + 1)) σ2 := by
        intro b s hs hb
        unfold b_X7_looksForAll_87
        refine gd_k (inb_nI (by omega) (by decide)) (nm_k (nm_k ?_))
        rw [nI_clamp (by omega), hs, hb, l_1, nI_add]
        exact e2
      unfold b_X7_looksForAll_47b b_X7_looksForAll_86
      rw [m1, l_7, pk_mul, nI_add]
      refine if_F (of_eq_false (ile_F (by omega : j < 7) (by decide))) (gd_k rfl ?_)
      by_cases hjS : aS A ≤ j
      · refine if_T (of_eq_true (ile_T hjS (by omega))) (go false _ nar_0 ?_)
        unfold opx
        rw [decide_eq_false (by omega)]
        rfl
      · refine if_F (of_eq_false (ile_F (by omega) (by omega))) (bd2_k (x_open7 hA hM hk (by omega)) ?_)
        have hx : opx A k j = opB A k j := by
          unfold opx
          rw [decide_eq_true (by omega)]
          rfl
        cases hb : opB A k j
        · exact if_T rfl (go false _ nar_0 (by rw [hx, hb]))
        · exact if_F (by decide) (go true _ nar_1 (by rw [hx, hb]))
    · by_cases hq : q = j
      · subst hq
        rw [h3 _ (by omega), ar_s2 ⟨rfl, rfl⟩]
      · exact h2 q (by omega) g2
    · rw [h3 i (by omega), ar_s1 (by omega)]
theorem x_lfal {N : Nat} {A : Ab} (hA : AOK A) : ∀ m n j σ, j + m = aS A → RM 61 A σ → (∀ i, i < j → MR A σ i) → ∃ σ', b_X7_looksForAll_2 (N + 200) (n + m + 1) (nI j) σ = some σ' ∧ Sm σ σ' ∧ ∀ i, i < aS A → MR A σ' i
  | 0, n, j, σ, hj, hM, hB => by
    have hS7 := hA.1.1
    have m1 : ar σ 61 (0 : Int32).toNatClampNeg = nI (aS A) := hM.1.1
    have e : j = aS A := by omega
    subst e
    refine ⟨σ, ?_, Sm.rf σ, hB⟩
    show b_X7_looksForAll_2b (N + 200) (b_X7_looksForAll_2 (N + 200) n) _ _ = _
    unfold b_X7_looksForAll_2b
    rw [m1]
    exact gd_k rfl (if_T (of_eq_true (ile_T (Nat.le_refl _) (by omega))) rfl)
  | m + 1, n, j, σ, hj, hM, hB => by
    have hS7 := hA.1.1
    have hjS : j < aS A := by omega
    have m1 : ar σ 61 (0 : Int32).toNatClampNeg = nI (aS A) := hM.1.1
    obtain ⟨σ1, e1, o1⟩ := x_al7 (N := N) hA hM hjS
    have m2 : Sm σ (sar σ1 73 j (nI (alw A j))) := o1.sm.sar j _ (by decide)
    obtain ⟨σ3, e3, o3⟩ := x_fi7 (N := N) hA (hM.smm m2) hjS
    have m4 : Sm σ (sar σ3 74 j (nI (fin A j))) := (m2.tr o3.sm).sar j _ (by decide)
    obtain ⟨σ5, e5, o5⟩ := x_st7 (N := N) hA (hM.smm m4) hjS
    have m6 : Sm σ (sar σ5 75 j (nI (ste A j))) := (m4.tr o5.sm).sar j _ (by decide)
    obtain ⟨σ7, e7, o7, h7, h7'⟩ := x_lfa_in (N := N + 200) hA hjS (b_X7_looksForAll_2 (N + 200) (n + m + 1)) 7 (N + 192) 0 (sar σ5 75 j (nI (ste A j))) (by omega) (hM.smm m6)
    rw [show N + 192 + 7 + 1 = N + 200 by omega] at e7
    have m8 : Sm σ σ7 := m6.tr (o7.sm (by decide))
    have hrow : ∀ i, i < j + 1 → MR A σ7 i := by
      intro i hi
      unfold MR
      have q73 : ar σ7 73 i = if i = j then nI (alw A j) else ar σ 73 i := by
        rw [o7.2.2 _ (by decide), ar_sar_ne (by decide), o5.2.2 _ (by decide) (by decide), ar_sar_ne (by decide), o3.2.2 _ (by decide) (by decide), ar_sar, o1.2.2 _ (by decide) (by decide)]
        simp only [true_and]
      have q74 : ar σ7 74 i = if i = j then nI (fin A j) else ar σ 74 i := by
        rw [o7.2.2 _ (by decide), ar_sar_ne (by decide), o5.2.2 _ (by decide) (by decide), ar_sar, o3.2.2 _ (by decide) (by decide), ar_sar_ne (by decide), o1.2.2 _ (by decide) (by decide)]
        simp only [true_and]
      have q75 : ar σ7 75 i = if i = j then nI (ste A j) else ar σ 75 i := by
        rw [o7.2.2 _ (by decide), ar_sar, o5.2.2 _ (by decide) (by decide), ar_sar_ne (by decide), o3.2.2 _ (by decide) (by decide), ar_sar_ne (by decide), o1.2.2 _ (by decide) (by decide)]
        simp only [true_and]
      have q76 : ∀ q, q < 7 → i ≠ j → ar σ7 76 (7 * i + q) = ar σ 76 (7 * i + q) := by
        intro q hq hij
        rw [h7' _ (by omega), ar_sar_ne (by decide), o5.2.2 _ (by decide) (by decide), ar_sar_ne (by decide), o3.2.2 _ (by decide) (by decide), ar_sar_ne (by decide), o1.2.2 _ (by decide) (by decide)]
      rw [q73, q74, q75]
      by_cases q : i = j
      · subst q
        simp only [if_pos]
        exact ⟨trivial, trivial, trivial, fun q hq => h7 q (Nat.zero_le _) hq⟩
      · simp only [if_neg q]
        obtain ⟨b1, b2, b3, b4⟩ := hB i (by omega)
        exact ⟨b1, b2, b3, fun r hr => (q76 r hr q).trans (b4 r hr)⟩
    obtain ⟨σ9, e9, m9, hB9⟩ := x_lfal (N := N) hA m n (j + 1) σ7 (by omega) (hM.smm m8) hrow
    refine ⟨σ9, ?_, m8.tr m9, hB9⟩
    show b_X7_looksForAll_2b (N + 200) (b_X7_looksForAll_2 (N + 200) (n + m + 1)) _ _ = _
    unfold b_X7_looksForAll_2b
    rw [m1]
    refine gd_k rfl (if_F (of_eq_false (ile_F hjS (by omega))) (bd2_k e1 (gd_k (inb_nI (by omega) (by decide)) (nm_k ?_))))
    rw [nI_clamp (by omega)]
    refine bd2_k e3 (gd_k (inb_nI (by omega) (by decide)) (nm_k (bd2_k e5 (gd_k (inb_nI (by omega) (by decide)) (nm_k ?_)))))
    exact e7.trans e9
theorem x_lfa {N : Nat} {σ : Sg} {A : Ab} (hA : AOK A) (hM : RM 61 A σ) : ∃ σ', f_X7_looksForAll (N + 200) σ = some σ' ∧ Sm σ σ' ∧ ∀ i, i < aS A → MR A σ' i := by
  have hS7 := hA.1.1
  have k := x_lfal (N := N) hA (aS A) (N + 199 - aS A) 0 σ (by omega) hM (fun i hi => absurd hi (Nat.not_lt_zero i))
  rw [show N + 199 - aS A + aS A + 1 = N + 200 by omega] at k
  exact k
