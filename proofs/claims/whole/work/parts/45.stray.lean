/-! stray -/
theorem cti_le {A : Ab} {row : Nat → Nat} {a B : Nat} (h : row a ≤ B) (j : Nat) : cti A true row a j ≤ 60 * B := by
  unfold cti
  rw [if_pos rfl]
  have h2 : row a * (60 / popc (opS A a)) ≤ row a * 60 := Nat.mul_le_mul_left _ (Nat.div_le_self _ _)
  split
  · split <;> omega
  · split <;> omega
theorem nxr_le {A : Ab} {row : Nat → Nat} {B j : Nat} : ∀ n, (∀ a, a < n → row a ≤ B) → nxr A true row n j ≤ n * (60 * B)
  | 0, _ => Nat.zero_le _
  | n + 1, h => by
    have h1 := nxr_le (A := A) (row := row) (B := B) (j := j) n (fun a ha => h a (by omega))
    have h2 := cti_le (A := A) (h n (by omega)) j
    show nxr A true row n j + cti A true row n j ≤ (n + 1) * (60 * B)
    rw [Nat.succ_mul]
    omega
theorem rwn_le {A : Ab} (hA : AOK A) (one : Nat) : ∀ t j, j < aS A → rwn A true one t j ≤ 420 ^ t
  | 0, j, _ => by
    show (if j = one then 1 else 0) ≤ 1
    split <;> omega
  | t + 1, j, _ => by
    have h := nxr_le (A := A) (row := rwn A true one t) (B := 420 ^ t) (j := j) (aS A) (fun a ha => rwn_le hA one t a ha)
    have hS7 := hA.1.1
    show nxr A true (rwn A true one t) (aS A) j ≤ 420 ^ (t + 1)
    rw [Nat.pow_succ]
    have : aS A * (60 * 420 ^ t) ≤ 7 * (60 * 420 ^ t) := Nat.mul_le_mul_right _ hS7
    omega
theorem rwn_lt {A : Ab} (hA : AOK A) (one : Nat) {t j : Nat} (ht : t ≤ 6) (hj : j < aS A) : rwn A true one t j < 2 ^ 63 := by
  have h := rwn_le hA one t j hj
  have h2 : 420 ^ t ≤ 420 ^ 6 := Nat.pow_le_pow_right (by decide) ht
  omega
theorem x_chan36 {N : Nat} {A : Ab} (hA : AOK A) {row : Nat → Nat} (k11 : Int32 → Int32 → Int32 → Int64 → Int32 → Sg → Option (Int64 × Sg)) {x y z : Int32} {w : Int64} {t : Nat} : ∀ m n a σ, a + m = aS A → CR A σ → (∀ j, j < aS A → al σ 57 j = lN (row j)) → (∀ j, j < aS A → al σ 58 j = lN (nxr A true row a j)) → ∃ σ', b_X3_chance_36 (N + 200) k11 (n + m + 1) x y z w (nI t) (nI a) σ = k11 x y z w (nI (t + 1)) σ' ∧ OA σ σ' ∧ ∀ j, j < aS A → al σ' 57 j = lN (nxr A true row (aS A) j)
  | 0, n, a, σ, hj, hR, h57, h58 => by
    have hS7 := hA.1.1
    have e : a = aS A := by omega
    subst e
    refine ⟨srowl σ 57 (va_cpy (al σ 58) (al σ 57) 0 0 7), ?_, ⟨rfl, rfl⟩, fun j hj => ?_⟩
    · show b_X3_chance_36b (N + 200) k11 (b_X3_chance_36 (N + 200) k11 n) _ _ _ _ _ _ _ = _
      unfold b_X3_chance_36b
      rw [hR.1, l_1, nI_add]
      exact if_T (of_eq_true (ile_T (Nat.le_refl _) (by omega))) rfl
    · rw [al_srowl, if_pos rfl, pk_cpy_in (Nat.zero_le _) (by omega), Nat.sub_zero, Nat.zero_add]
      exact h58 j hj
  | m + 1, n, a, σ, hj, hR, h57, h58 => by
    have hS7 := hA.1.1
    have ha : a < aS A := by omega
    obtain ⟨σ1, e1, o1, g1⟩ := x_share6 (N := N) hA ha hR (h57 a ha)
    obtain ⟨σ2, e2, o2, g2⟩ := x_chan36 (N := N) hA (row := row) k11 (x := x) (y := y) (z := z) (w := w) (t := t) m n (a + 1) σ1 (by omega) (hR.oa o1.oa) (fun j hj => by rw [o1.2.2 57 (by decide)]; exact h57 j hj) (fun j hj => by
      rw [g1 j hj, h58 j hj, lN_add]
      rfl)
    refine ⟨σ2, ?_, o1.oa.tr o2, g2⟩
    show b_X3_chance_36b (N + 200) k11 (b_X3_chance_36 (N + 200) k11 (n + m + 1)) _ _ _ _ _ _ _ = _
    unfold b_X3_chance_36b
    rw [hR.1, l_1, nI_add, nI_add]
    exact if_F (of_eq_false (ile_F ha (by omega))) (bd_k e1 (nm_k e2))
theorem lN_ne0 {b : Nat} (h : b < 2 ^ 63) (h0 : ¬ b = 0) : ¬ lN b = 0 := by
  intro q
  have h1 := pk_lT h
  rw [q] at h1
  have h2 : (0 : Int64).toInt = 0 := by decide
  omega
theorem cmp_z : lg_cmp (lN 0) 0 = 0 := by decide
theorem cmp_nz {b : Nat} (h : b < 2 ^ 63) (h0 : ¬ b = 0) : ¬ lg_cmp (lN b) 0 = 0 := fun q => lN_ne0 h h0 ((lg_cmp_eq _ _).mp q)
theorem gcd_st (a b : Nat) : Nat.gcd a b = Nat.gcd b (a % b) := by rw [Nat.gcd_comm, Nat.gcd_rec, Nat.gcd_comm]
theorem cd_0 {N F a i : Nat} {σ : Sg} (hi : i ≤ 100) : b_X3_commonDivisor_9 N (F + 1) (lN a) (lN 0) (nI i) σ = some (lN a, σ) := by
  show b_X3_commonDivisor_9b N (b_X3_commonDivisor_9 N F) _ _ _ _ = _
  unfold b_X3_commonDivisor_9b
  by_cases h : 100 ≤ i
  · exact if_T (of_eq_true (ile_T h (by omega))) rfl
  · exact if_F (of_eq_false (ile_F (Nat.lt_of_not_le h) (by decide))) (if_T cmp_z rfl)
theorem cd_1 {N F a b i : Nat} {σ : Sg} (hi : i < 100) (ha : a < 2 ^ 63) (hb : b < 2 ^ 63) (h0 : ¬ b = 0) : b_X3_commonDivisor_9 N (F + 1) (lN a) (lN b) (nI i) σ = b_X3_commonDivisor_9 N F (lN b) (lN (a % b)) (nI (i + 1)) σ := by
  show b_X3_commonDivisor_9b N (b_X3_commonDivisor_9 N F) _ _ _ _ = _
  unfold b_X3_commonDivisor_9b
  refine if_F (of_eq_false (ile_F hi (by decide))) (if_F (cmp_nz hb h0) (gd_k (decide_eq_true (lN_ne0 hb h0)) (nm_k (nm_k ?_))))
  rw [pk_lRem ha (by omega) hb, l_1, nI_add]
theorem x_cd {N : Nat} {σ : Sg} : ∀ m F a b i, b < 2 ^ m → 2 * m + 1 ≤ F → i + 2 * m ≤ 100 → a < 2 ^ 63 → b < 2 ^ 63 → b_X3_commonDivisor_9 N F (lN a) (lN b) (nI i) σ = some (lN (Nat.gcd a b), σ)
  | m, 0, a, b, i, _, hF, _, _, _ => absurd hF (by omega)
  | 0, F + 1, a, b, i, hb, hF, hi, ha, hb' => by
    have e : b = 0 := by
      rw [Nat.pow_zero] at hb
      omega
    subst e
    rw [cd_0 (by omega), Nat.gcd_zero_right]
  | m + 1, F + 1, a, b, i, hb, hF, hi, ha, hb' => by
    by_cases h0 : b = 0
    · subst h0
      rw [cd_0 (by omega), Nat.gcd_zero_right]
    · rw [cd_1 (by omega) ha hb' h0, gcd_st]
      have h1 : a % b < b := Nat.mod_lt _ (by omega)
      match F, hF with
      | F + 1, hF =>
        by_cases h2 : a % b = 0
        · rw [h2, cd_0 (by omega), Nat.gcd_zero_right]
        · rw [cd_1 (by omega) hb' (by omega) h2, gcd_st]
          have h3 : b % (a % b) < a % b := Nat.mod_lt _ (by omega)
          have h4 := Nat.div_add_mod b (a % b)
          have h5 : 1 ≤ b / (a % b) := (Nat.one_le_div_iff (by omega)).mpr (by omega)
          have h6 : a % b ≤ (a % b) * (b / (a % b)) := Nat.le_mul_of_pos_right _ h5
          refine x_cd m F _ _ (i + 1 + 1) ?_ (by omega) (by omega) (by omega) (by omega)
          rw [Nat.pow_succ] at hb
          omega
theorem lw_0 {N F a : Nat} {u l : Int64} {p : Nat} {σ : Sg} (hp : p ≤ 1) (ha : a < 2 ^ 63) (h0 : ¬ a = 0) : b_X7_lowest_6 N (F + 1) u l (nI p) (lN a) (lN 0) σ = some (if p = 0 then u / lN a else l / lN a, σ) := by
  show b_X7_lowest_6b N (b_X7_lowest_6 N F) _ _ _ _ _ _ = _
  unfold b_X7_lowest_6b
  refine if_T cmp_z ?_
  by_cases h : p = 0
  · rw [if_pos h]
    exact if_T (by rw [h]; rfl) (gd_k (decide_eq_true (lN_ne0 ha h0)) rfl)
  · rw [if_neg h]
    exact if_F (of_eq_false (ieq_F h (by omega) (by decide))) (gd_k (decide_eq_true (lN_ne0 ha h0)) rfl)
theorem lw_1 {N F a b : Nat} {u l : Int64} {p : Int32} {σ : Sg} (ha : a < 2 ^ 63) (hb : b < 2 ^ 63) (h0 : ¬ b = 0) : b_X7_lowest_6 N (F + 1) u l p (lN a) (lN b) σ = b_X7_lowest_6 N F u l p (lN b) (lN (a % b)) σ := by
  show b_X7_lowest_6b N (b_X7_lowest_6 N F) _ _ _ _ _ _ = _
  unfold b_X7_lowest_6b
  refine if_F (cmp_nz hb h0) (gd_k (decide_eq_true (lN_ne0 hb h0)) (nm_k ?_))
  rw [pk_lRem ha (by omega) hb]
theorem x_lwst {N : Nat} {u l : Int64} {p : Nat} (hp : p ≤ 1) {σ : Sg} : ∀ m F a b, b < 2 ^ m → 2 * m + 1 ≤ F → a < 2 ^ 63 → b < 2 ^ 63 → ¬ Nat.gcd a b = 0 → b_X7_lowest_6 N F u l (nI p) (lN a) (lN b) σ = some (if p = 0 then u / lN (Nat.gcd a b) else l / lN (Nat.gcd a b), σ)
  | m, 0, a, b, _, hF, _, _, _ => absurd hF (by omega)
  | 0, F + 1, a, b, hb, hF, ha, hb', hg => by
    have e : b = 0 := by
      rw [Nat.pow_zero] at hb
      omega
    subst e
    rw [Nat.gcd_zero_right] at hg ⊢
    exact lw_0 hp ha hg
  | m + 1, F + 1, a, b, hb, hF, ha, hb', hg => by
    by_cases h0 : b = 0
    · subst h0
      rw [Nat.gcd_zero_right] at hg ⊢
      exact lw_0 hp ha hg
    · rw [gcd_st] at hg ⊢
      rw [lw_1 ha hb' h0]
      have h1 : a % b < b := Nat.mod_lt _ (by omega)
      match F, hF with
      | F + 1, hF =>
        by_cases h2 : a % b = 0
        · rw [h2] at hg ⊢
          rw [Nat.gcd_zero_right] at hg ⊢
          exact lw_0 hp hb' hg
        · rw [gcd_st] at hg ⊢
          rw [lw_1 hb' (by omega) h2]
          have h3 : b % (a % b) < a % b := Nat.mod_lt _ (by omega)
          have h4 := Nat.div_add_mod b (a % b)
          have h5 : 1 ≤ b / (a % b) := (Nat.one_le_div_iff (by omega)).mpr (by omega)
          have h6 : a % b ≤ (a % b) * (b / (a % b)) := Nat.le_mul_of_pos_right _ h5
          refine x_lwst hp m F _ _ ?_ (by omega) (by omega) (by omega) hg
          rw [Nat.pow_succ] at hb
          omega
def stV (A : Ab) (one to n p : Nat) : Int64 := if p = 0 then lN (rwn A true one n to) / lN (Nat.gcd (rwn A true one n to) (60 ^ n)) else lN (60 ^ n) / lN (Nat.gcd (rwn A true one n to) (60 ^ n))
theorem p60 {n : Nat} (h : n ≤ 6) : 60 ^ n < 2 ^ 36 := by
  have h2 : 60 ^ n ≤ 60 ^ 6 := Nat.pow_le_pow_right (by decide) h
  omega
theorem p60_0 (n : Nat) : 0 < 60 ^ n := Nat.pow_pos (by decide)
theorem x_chan11 {N : Nat} {A : Ab} (hA : AOK A) {one to n0 p : Nat} (hto : to < aS A) (hn0 : n0 ≤ 6) (hp : p ≤ 1) : ∀ m n t σ, t + m = n0 → CR A σ → (∀ j, j < aS A → al σ 57 j = lN (rwn A true one t j)) → ∃ σ', b_X3_chance_11 (N + 200) (n + m + 1) (nI to) (nI n0) (nI p) (lN (60 ^ t)) (nI t) σ = some (stV A one to n0 p, σ') ∧ OA σ σ'
  | 0, n, t, σ, hj, hR, h57 => by
    have hS7 := hA.1.1
    have e : t = n0 := by omega
    subst e
    have h1 := rwn_lt hA one hn0 hto
    have h2 := p60 hn0
    have h3 := p60_0 t
    have hg : 0 < Nat.gcd (rwn A true one t to) (60 ^ t) := Nat.gcd_pos_of_pos_right _ h3
    have hg2 : Nat.gcd (rwn A true one t to) (60 ^ t) ≤ 60 ^ t := Nat.gcd_le_right _ h3
    have hg0 : ¬ lN (Nat.gcd (rwn A true one t to) (60 ^ t)) = 0 := lN_ne0 (by omega) (by omega)
    refine ⟨σ, ?_, rfl, rfl⟩
    show b_X3_chance_11b (N + 200) (b_X3_chance_11 (N + 200) n) _ _ _ _ _ _ = _
    unfold b_X3_chance_11b
    rw [nI_clamp (by omega), h57 to hto]
    refine if_T (of_eq_true (ile_T (Nat.le_refl _) (by omega))) (gd_k (inb_nI (by omega) (by decide)) (bd2_k (x_cd 36 (N + 200) (rwn A true one t to) (60 ^ t) 0 h2 (by omega) (by omega) h1 (by omega)) (if_T ?_ ?_)))
    · refine (lg_cmp_gt _ _).mpr ?_
      rw [Int64.lt_iff_toInt_lt, pk_lT (by omega)]
      have h0 : (0 : Int64).toInt = 0 := by decide
      omega
    · rw [h57 to hto]
      unfold stV
      by_cases h : p = 0
      · rw [if_pos h]
        exact if_T (by rw [h]; rfl) (gd_k (inb_nI (by omega) (by decide)) (gd_k (decide_eq_true hg0) rfl))
      · rw [if_neg h]
        exact if_F (of_eq_false (ieq_F h (by omega) (by decide))) (gd_k (decide_eq_true hg0) rfl)
  | m + 1, n, t, σ, hj, hR, h57 => by
    have hS7 := hA.1.1
    obtain ⟨σ1, e1, o1, g1, -⟩ := x_fill58 (N := N + 200) (v := 0) 7 (N + 192) 0 σ (by omega)
    rw [show N + 192 + 7 + 1 = N + 200 by omega] at e1
    obtain ⟨σ2, e2, o2, g2⟩ := x_chan36 (N := N) hA (row := rwn A true one t) (b_X3_chance_11 (N + 200) (n + m + 1)) (x := nI to) (y := nI n0) (z := nI p) (w := lN (60 ^ (t + 1))) (t := t) (aS A) (N + 199 - aS A) 0 σ1 (by omega) (hR.oa o1.oa) (fun j hj => by rw [o1.2.2 57 (by decide)]; exact h57 j hj) (fun j hj => g1 j (Nat.zero_le _) (by omega))
    rw [show N + 199 - aS A + aS A + 1 = N + 200 by omega] at e2
    obtain ⟨σ3, e3, o3⟩ := x_chan11 (N := N) hA hto hn0 hp (one := one) m n (t + 1) σ2 (by omega) ((hR.oa o1.oa).oa o2) g2
    refine ⟨σ3, ?_, (o1.oa.tr o2).tr o3⟩
    show b_X3_chance_11b (N + 200) (b_X3_chance_11 (N + 200) (n + m + 1)) _ _ _ _ _ _ = _
    unfold b_X3_chance_11b
    rw [ll_60, lN_mul, ← Nat.pow_succ]
    exact if_F (of_eq_false (ile_F (by omega : t < n0) (by omega))) (nm_k (bd_k e1 (e2.trans e3)))
theorem x_stray51 {N : Nat} {A : Ab} (hA : AOK A) {one to n0 p : Nat} (hto : to < aS A) (hn0 : n0 ≤ 6) (hp : p ≤ 1) : ∀ m n t σ, t + m = n0 → RM 61 A σ → (∀ j, j < aS A → al σ 80 j = lN (rwn A true one t j)) → ∃ σ', b_X7_stray_51 (N + 200) (n + m + 1) (nI to) (nI n0) (nI p) (lN (60 ^ t)) (nI t) σ = some (stV A one to n0 p, σ') ∧ OA σ σ'
  | 0, n, t, σ, hj, hM, h80 => by
    have hS7 := hA.1.1
    have e : t = n0 := by omega
    subst e
    have h1 := rwn_lt hA one hn0 hto
    have h2 := p60 hn0
    have h3 := p60_0 t
    have hg : 0 < Nat.gcd (rwn A true one t to) (60 ^ t) := Nat.gcd_pos_of_pos_right _ h3
    refine ⟨σ, ?_, rfl, rfl⟩
    show b_X7_stray_51b (N + 200) (b_X7_stray_51 (N + 200) n) _ _ _ _ _ _ = _
    unfold b_X7_stray_51b
    rw [nI_clamp (by omega), h80 to hto]
    exact if_T (of_eq_true (ile_T (Nat.le_refl _) (by omega))) (gd_k (inb_nI (by omega) (by decide)) (bd2_k (x_lwst hp 36 (N + 200) _ _ h2 (by omega) h1 (by omega) (by omega)) rfl))
  | m + 1, n, t, σ, hj, hM, h80 => by
    have hS7 := hA.1.1
    obtain ⟨σ1, e1, o1, g1⟩ := x_go7 (N := N) hA (ch := true) hM h80
    obtain ⟨σ2, e2, o2⟩ := x_stray51 (N := N) hA hto hn0 hp (one := one) m n (t + 1) σ1 (by omega) (hM.smm o1.sm) g1
    refine ⟨σ2, ?_, o1.tr o2⟩
    show b_X7_stray_51b (N + 200) (b_X7_stray_51 (N + 200) (n + m + 1)) _ _ _ _ _ _ = _
    unfold b_X7_stray_51b
    rw [ll_60, lN_mul, ← Nat.pow_succ, l_1, nI_add]
    exact if_F (of_eq_false (ile_F (by omega : t < n0) (by omega))) (bd_k e1 (nm_k (nm_k e2)))
theorem op_stray {N : Nat} {σ : Sg} {A : Ab} (hI : Inv A σ) (x y z w : Int32) : Okl (f_X6_stray (N + 200) x y z w) (f_X7_stray (N + 200) x y z w) σ := by
  obtain ⟨⟨hS7, hD99, hT100, hW5, hZ7⟩, hAS, hAT, hAZ, hAW, hAW0⟩ := id hI.1
  obtain ⟨-, hC, hM, hK, r, hr, r1, r2, r3⟩ := id hI
  obtain ⟨⟨c1, c2, c3, c4, c5⟩, cS, cT, cZ, cW⟩ := id hC
  obtain ⟨⟨m1, m2, m3, m4, m5, m6⟩, mS, mT, mZ, mW⟩ := id hM
  unfold f_X6_stray f_X7_stray
  rcases i_cases x with h | ⟨a, ha, rfl⟩
  · exact ⟨_, σ, σ, A, bd2_k (x_both_F1 (x_has_lo h)) (if_T n00 rfl), bd2_k (x_isS_lo h) (if_T n00 rfl), hI⟩
  by_cases haS : aS A ≤ a
  · exact ⟨_, σ, σ, A, bd2_k (x_both_F1 (x_has_F c1 hS7 haS ha)) (if_T n00 rfl), bd2_k (x_isS_F m1 hS7 haS ha) (if_T n00 rfl), hI⟩
  have haS' : a < aS A := by omega
  rcases i_cases y with h | ⟨b, hb, rfl⟩
  · exact ⟨_, σ, σ, A, bd2_k (x_both_F2 (x_has_T c1 hS7 haS') (x_has_lo h)) (if_T n00 rfl), bd2_k (x_isS_T m1 hS7 haS') (if_F n10 (bd2_k (x_isS_lo h) (if_T n00 rfl))), hI⟩
  by_cases hbS : aS A ≤ b
  · exact ⟨_, σ, σ, A, bd2_k (x_both_F2 (x_has_T c1 hS7 haS') (x_has_F c1 hS7 hbS hb)) (if_T n00 rfl), bd2_k (x_isS_T m1 hS7 haS') (if_F n10 (bd2_k (x_isS_F m1 hS7 hbS hb) (if_T n00 rfl))), hI⟩
  have hbS' : b < aS A := by omega
  rcases i_cases z with h | ⟨n, hn, rfl⟩
  · exact ⟨_, σ, σ, A, bd2_k (x_both_T c1 hS7 haS' hbS') (if_F n10 (if_T h rfl)), bd2_k (x_isS_T m1 hS7 haS') (if_F n10 (bd2_k (x_isS_T m1 hS7 hbS') (if_F n10 (bd2_k (x_in_lo h (by decide) _) (if_T n00 rfl))))), hI⟩
  by_cases hn6 : 6 < n
  · exact ⟨_, σ, σ, A, bd2_k (x_both_T c1 hS7 haS' hbS') (if_F n10 (if_F (of_eq_false (ilt_F (Nat.zero_le _) hn)) (if_T (of_eq_true (ilt_T hn6 hn)) rfl))), bd2_k (x_isS_T m1 hS7 haS') (if_F n10 (bd2_k (x_isS_T m1 hS7 hbS') (if_F n10 (bd2_k (x_in_F (Or.inr hn6) hn (by decide) (by decide)) (if_T n00 rfl))))), hI⟩
  have hn6' := Nat.le_of_not_lt hn6
  rcases i_cases w with h | ⟨p, hp, rfl⟩
  · exact ⟨_, σ, σ, A, bd2_k (x_both_T c1 hS7 haS' hbS') (if_F n10 (if_F (of_eq_false (ilt_F (Nat.zero_le _) hn)) (if_F (of_eq_false (ilt_F hn6' (by decide))) (if_T h rfl)))), bd2_k (x_isS_T m1 hS7 haS') (if_F n10 (bd2_k (x_isS_T m1 hS7 hbS') (if_F n10 (bd2_k (x_in_T (Nat.zero_le _) hn6' (by decide)) (if_F n10 (bd2_k (x_in_lo h (by decide) _) (if_T n00 rfl))))))), hI⟩
  by_cases hp1 : 1 < p
  · exact ⟨_, σ, σ, A, bd2_k (x_both_T c1 hS7 haS' hbS') (if_F n10 (if_F (of_eq_false (ilt_F (Nat.zero_le _) hn)) (if_F (of_eq_false (ilt_F hn6' (by decide))) (if_F (of_eq_false (ilt_F (Nat.zero_le _) hp)) (if_F (of_eq_false (ile_F hp1 hp)) rfl))))), bd2_k (x_isS_T m1 hS7 haS') (if_F n10 (bd2_k (x_isS_T m1 hS7 hbS') (if_F n10 (bd2_k (x_in_T (Nat.zero_le _) hn6' (by decide)) (if_F n10 (bd2_k (x_in_F (Or.inr hp1) hp (by decide) (by decide)) (if_T n00 rfl))))))), hI⟩
  have hp1' := Nat.le_of_not_lt hp1
  obtain ⟨σ1, e1, s1, q1⟩ := x_load3 (N := N) hI.1 hC
  obtain ⟨σ2, e2, o2, g2⟩ := x_begin6 (N := N) (ch := true) (σ := σ1) hI.1 haS'
  obtain ⟨σ3, e3, o3⟩ := x_chan11 (N := N) hI.1 (one := a) hbS' hn6' hp1' n (N + 199 - n) 0 σ2 (by omega) (q1.oa o2) g2
  rw [show N + 199 - n + n + 1 = N + 200 by omega] at e3
  have hI3 := ((hI.sm s1).sm o2.sm).sm o3.sm
  have hM3 := hI3.2.2.1
  obtain ⟨σ4, e4, o4, g4, -⟩ := x_beg7 (N := N + 200) (one := a) (by omega) 7 (N + 192) 0 σ3 (by omega)
  rw [show N + 192 + 7 + 1 = N + 200 by omega] at e4
  obtain ⟨σ5, e5, o5⟩ := x_stray51 (N := N) hI.1 (one := a) hbS' hn6' hp1' n (N + 199 - n) 0 σ4 (by omega) (hM3.smm o4.oa.sm) (fun j hj => g4 j (Nat.zero_le _) (by omega))
  rw [show N + 199 - n + n + 1 = N + 200 by omega] at e5
  exact ⟨stV A a b n p, σ3, σ5, A, bd2_k (x_both_T c1 hS7 haS' hbS') (if_F n10 (if_F (of_eq_false (ilt_F (Nat.zero_le _) hn)) (if_F (of_eq_false (ilt_F hn6' (by decide))) (if_F (of_eq_false (ilt_F (Nat.zero_le _) hp)) (if_T (of_eq_true (ile_T hp1' (by decide))) (bd_k e1 (bd2_k (bd_k e2 e3) rfl))))))), bd2_k (x_isS_T hM3.1.1 hS7 haS') (if_F n10 (bd2_k (x_isS_T hM3.1.1 hS7 hbS') (if_F n10 (bd2_k (x_in_T (Nat.zero_le _) hn6' (by decide)) (if_F n10 (bd2_k (x_in_T (Nat.zero_le _) hp1' (by decide)) (if_F n10 (bd_k e4 e5)))))))), (hI3.sm o4.oa.sm).sm o5.sm⟩
