/-! how many ways, chances -/
def OG (a : Nat) (σ σ' : Sg) : Prop := rg σ' = rg σ ∧ ar σ' = ar σ ∧ ∀ k, k ≠ a → al σ' k = al σ k
theorem OG.rf (a : Nat) (σ : Sg) : OG a σ σ := ⟨rfl, rfl, fun _ _ => rfl⟩
theorem OG.tr {n : Nat} {a b c : Sg} (h : OG n a b) (g : OG n b c) : OG n a c := ⟨g.1.trans h.1, g.2.1.trans h.2.1, fun k hk => (g.2.2 k hk).trans (h.2.2 k hk)⟩
theorem al_ne {σ : Sg} {k j a : Nat} {v : Int64} (h : a ≠ k) : al (sal σ k j v) a = al σ a := by
  funext y
  rw [al_sal, if_neg (fun q => h q.1)]
theorem al_s1 {σ : Sg} {k j a b : Nat} {v : Int64} (h : ¬ (a = k ∧ b = j)) : al (sal σ k j v) a b = al σ a b := by rw [al_sal, if_neg h]
theorem al_s2 {σ : Sg} {k j a b : Nat} {v : Int64} (h : a = k ∧ b = j) : al (sal σ k j v) a b = v := by rw [al_sal, if_pos h]
theorem OG.sal {n : Nat} {a b : Sg} (h : OG n a b) (j : Nat) (v : Int64) : OG n a (sal b n j v) := ⟨h.1, h.2.1, fun k hk => (al_ne hk).trans (h.2.2 k hk)⟩
/-- only long rows have changed -/
def OA (σ σ' : Sg) : Prop := rg σ' = rg σ ∧ ar σ' = ar σ
theorem OA.tr {a b c : Sg} (h : OA a b) (g : OA b c) : OA a c := ⟨g.1.trans h.1, g.2.trans h.2⟩
theorem OG.oa {n : Nat} {a b : Sg} (h : OG n a b) : OA a b := ⟨h.1, h.2.1⟩
theorem OA.sm {a b : Sg} (h : OA a b) : Sm a b := ⟨fun k j _ => by rw [h.1], fun k _ => by rw [h.2]⟩
theorem CR.oa {A : Ab} {σ σ' : Sg} (h : CR A σ) (o : OA σ σ') : CR A σ' := by
  unfold CR
  rw [o.1, o.2]
  exact h
theorem popc_opS {A : Ab} (hA : AOK A) (k : Nat) : popc (opS A k) < 8 := popc_lt (p2_le hA.1.1 (setB_lt _ _))
theorem popc_le : ∀ n, n < 128 → popc n ≤ 7 := by decide +kernel
theorem popc_0 : ∀ n, n < 128 → popc n = 0 → n = 0 := by decide +kernel
theorem opB_bit {A : Ab} {a j : Nat} (hj : j < aS A) : (opS A a).testBit j = opB A a j := by
  show (setB (opB A a) (aS A)).testBit j = _
  rw [setB_bit, decide_eq_true hj, Bool.true_and]
theorem opB_p0 {A : Ab} (hA : AOK A) {a j : Nat} (hj : j < aS A) (h : popc (opS A a) = 0) : opB A a j = false := by
  have h0 := popc_0 (opS A a) (p2_le hA.1.1 (setB_lt _ _)) h
  rw [← opB_bit hj, h0]
  exact Nat.zero_testBit j
/-- what a street hands on to another one -/
def cti (A : Ab) (ch : Bool) (row : Nat → Nat) (a j : Nat) : Nat := if ch = true then (if popc (opS A a) = 0 then (if j = a then row a * 60 else 0) else if opB A a j = true then row a * (60 / popc (opS A a)) else 0) else if opB A a j = true then row a else 0
def nxr (A : Ab) (ch : Bool) (row : Nat → Nat) : Nat → Nat → Nat
  | 0, _ => 0
  | a + 1, j => nxr A ch row a j + cti A ch row a j
def rwn (A : Ab) (ch : Bool) (one : Nat) : Nat → Nat → Nat
  | 0 => fun j => if j = one then 1 else 0
  | t + 1 => nxr A ch (rwn A ch one t) (aS A)
theorem ll_0 : (0 : Int64) = lN 0 := rfl
theorem ll_1 : (1 : Int64) = lN 1 := rfl
theorem ll_60 : (60 : Int64) = lN 60 := rfl
/-! the class's -/
theorem x_fill57 {N : Nat} {v : Int64} : ∀ m n j σ, j + m = 7 → ∃ σ', b_J7_fill_d0a16_6 N (n + m + 1) v (nI j) (nI 7) σ = some σ' ∧ OG 57 σ σ' ∧ (∀ q, j ≤ q → q < 7 → al σ' 57 q = v) ∧ ∀ q, q < j → al σ' 57 q = al σ 57 q
  | 0, n, j, σ, hj => by
    have e : j = 7 := by omega
    subst e
    refine ⟨σ, ?_, OG.rf 57 σ, fun q h1 h2 => by omega, fun q h => rfl⟩
    show b_J7_fill_d0a16_6b N (b_J7_fill_d0a16_6 N n) _ _ _ _ = _
    unfold b_J7_fill_d0a16_6b
    exact if_T (of_eq_true (ile_T (Nat.le_refl 7) (by decide))) rfl
  | m + 1, n, j, σ, hj => by
    obtain ⟨σ', e, o, g, g2⟩ := x_fill57 (N := N) (v := v) m n (j + 1) (sal σ 57 j v) (by omega)
    refine ⟨σ', ?_, ((OG.rf 57 σ).sal j v).tr o, fun q h1 h2 => ?_, fun q h => ?_⟩
    · show b_J7_fill_d0a16_6b N (b_J7_fill_d0a16_6 N (n + m + 1)) _ _ _ _ = _
      unfold b_J7_fill_d0a16_6b
      refine if_F (of_eq_false (ile_F (by omega : j < 7) (by decide))) (gd_k (inb_nI (by omega) (by decide)) (nm_k (nm_k ?_)))
      rw [nI_clamp (by omega), l_1, nI_add]
      exact e
    · by_cases hq : q = j
      · subst hq
        rw [g2 q (by omega), al_s2 ⟨rfl, rfl⟩]
      · exact g q (by omega) h2
    · rw [g2 q (by omega), al_s1 (by omega)]
theorem x_fill58 {N : Nat} {v : Int64} : ∀ m n j σ, j + m = 7 → ∃ σ', b_J7_fill_d0a16_v1_6 N (n + m + 1) v (nI j) (nI 7) σ = some σ' ∧ OG 58 σ σ' ∧ (∀ q, j ≤ q → q < 7 → al σ' 58 q = v) ∧ ∀ q, q < j → al σ' 58 q = al σ 58 q
  | 0, n, j, σ, hj => by
    have e : j = 7 := by omega
    subst e
    refine ⟨σ, ?_, OG.rf 58 σ, fun q h1 h2 => by omega, fun q h => rfl⟩
    show b_J7_fill_d0a16_v1_6b N (b_J7_fill_d0a16_v1_6 N n) _ _ _ _ = _
    unfold b_J7_fill_d0a16_v1_6b
    exact if_T (of_eq_true (ile_T (Nat.le_refl 7) (by decide))) rfl
  | m + 1, n, j, σ, hj => by
    obtain ⟨σ', e, o, g, g2⟩ := x_fill58 (N := N) (v := v) m n (j + 1) (sal σ 58 j v) (by omega)
    refine ⟨σ', ?_, ((OG.rf 58 σ).sal j v).tr o, fun q h1 h2 => ?_, fun q h => ?_⟩
    · show b_J7_fill_d0a16_v1_6b N (b_J7_fill_d0a16_v1_6 N (n + m + 1)) _ _ _ _ = _
      unfold b_J7_fill_d0a16_v1_6b
      refine if_F (of_eq_false (ile_F (by omega : j < 7) (by decide))) (gd_k (inb_nI (by omega) (by decide)) (nm_k (nm_k ?_)))
      rw [nI_clamp (by omega), l_1, nI_add]
      exact e
    · by_cases hq : q = j
      · subst hq
        rw [g2 q (by omega), al_s2 ⟨rfl, rfl⟩]
      · exact g q (by omega) h2
    · rw [g2 q (by omega), al_s1 (by omega)]
theorem x_begin6 {N : Nat} {A : Ab} {ch : Bool} {σ : Sg} (hA : AOK A) {one : Nat} (h1 : one < aS A) : ∃ σ', f_X3_begin (N + 200) (nI one) σ = some σ' ∧ OA σ σ' ∧ ∀ j, j < aS A → al σ' 57 j = lN (rwn A ch one 0 j) := by
  have hS7 := hA.1.1
  obtain ⟨σ1, e1, o1, g1, -⟩ := x_fill57 (N := N + 200) (v := 0) 7 (N + 192) 0 σ (by omega)
  rw [show N + 192 + 7 + 1 = N + 200 by omega] at e1
  refine ⟨sal σ1 57 one 1, ?_, o1.oa.tr ((OG.rf 57 σ1).sal one 1).oa, fun j hj => ?_⟩
  · unfold f_X3_begin
    refine bd_k e1 (gd_k (inb_nI (by omega) (by decide)) (nm_k ?_))
    rw [nI_clamp (by omega)]
  · show _ = lN (if j = one then 1 else 0)
    by_cases q : j = one
    · subst q
      rw [al_s2 ⟨rfl, rfl⟩, if_pos rfl]
      rfl
    · rw [al_s1 (by omega), g1 j (Nat.zero_le _) (by omega), if_neg q]
      rfl
theorem x_give6 {N : Nat} {A : Ab} (hA : AOK A) {a : Nat} (ha : a < aS A) {e : Nat} : ∀ m n j σ, j + m = aS A → CR A σ → ∃ σ', b_X3_give_3 N (n + m + 1) (nI a) (lN e) (nI j) σ = some σ' ∧ OG 58 σ σ' ∧ (∀ q, q < j → al σ' 58 q = al σ 58 q) ∧ ∀ q, j ≤ q → q < aS A → al σ' 58 q = if opB A a q = true then al σ 58 q + lN e else al σ 58 q
  | 0, n, j, σ, hj, hR => by
    have hS7 := hA.1.1
    have e : j = aS A := by omega
    subst e
    refine ⟨σ, ?_, OG.rf 58 σ, fun q _ => rfl, fun q h1 h2 => by omega⟩
    show b_X3_give_3b N (b_X3_give_3 N n) _ _ _ _ = _
    unfold b_X3_give_3b
    rw [hR.1]
    exact if_T (of_eq_true (ile_T (Nat.le_refl _) (by omega))) rfl
  | m + 1, n, j, σ, hj, hR => by
    have hS7 := hA.1.1
    have hjS : j < aS A := by omega
    have hs : opS A a < 128 := p2_le hS7 (setB_lt _ _)
    by_cases hb : opB A a j = true
    · obtain ⟨σ', e1, o1, g1, g2⟩ := x_give6 (N := N) hA ha (e := e) m n (j + 1) (sal σ 58 j (al σ 58 j + lN e)) (by omega) (hR.oa ((OG.rf 58 σ).sal j _).oa)
      refine ⟨σ', ?_, ((OG.rf 58 σ).sal j _).tr o1, fun q hq => ?_, fun q h1 h2 => ?_⟩
      · show b_X3_give_3b N (b_X3_give_3 N (n + m + 1)) _ _ _ _ = _
        unfold b_X3_give_3b b_X3_give_38
        rw [hR.1, nI_clamp (by omega), nI_clamp (by omega), hR.2.1 a ha, l_31, l_1, bit_1 _ hs j (by omega), opB_bit hjS, hb, nI_add]
        exact if_F (of_eq_false (ile_F hjS (by omega))) (gd_k (inb_nI (by omega) (by decide)) (if_T rfl (gd_k (inb_nI (by omega) (by decide)) (gd_k (inb_nI (by omega) (by decide)) (nm_k (nm_k e1))))))
      · rw [g1 q (by omega), al_s1 (by omega)]
      · by_cases hq : q = j
        · subst hq
          rw [g1 q (by omega), al_s2 ⟨rfl, rfl⟩, if_pos hb]
        · rw [g2 q (by omega) h2, al_s1 (by omega)]
    · obtain ⟨σ', e1, o1, g1, g2⟩ := x_give6 (N := N) hA ha (e := e) m n (j + 1) σ (by omega) hR
      refine ⟨σ', ?_, o1, fun q hq => g1 q (by omega), fun q h1 h2 => ?_⟩
      · show b_X3_give_3b N (b_X3_give_3 N (n + m + 1)) _ _ _ _ = _
        unfold b_X3_give_3b b_X3_give_38
        rw [hR.1, nI_clamp (by omega), nI_clamp (by omega), hR.2.1 a ha, l_31, l_1, bit_1 _ hs j (by omega), opB_bit hjS, if_neg hb, nI_add]
        exact if_F (of_eq_false (ile_F hjS (by omega))) (gd_k (inb_nI (by omega) (by decide)) (if_F (by decide) (nm_k e1)))
      · by_cases hq : q = j
        · subst hq
          rw [g1 q (by omega), if_neg hb]
        · exact g2 q (by omega) h2
theorem x_give6z {N : Nat} {A : Ab} (hA : AOK A) {a : Nat} (ha : a < aS A) {e : Nat} {σ : Sg} (hR : CR A σ) : ∃ σ', f_X3_give (N + 200) (nI a) (lN e) σ = some σ' ∧ OG 58 σ σ' ∧ ∀ q, q < aS A → al σ' 58 q = if opB A a q = true then al σ 58 q + lN e else al σ 58 q := by
  have hS7 := hA.1.1
  obtain ⟨σ', e1, o1, -, g⟩ := x_give6 (N := N + 200) hA ha (e := e) (aS A) (N + 199 - aS A) 0 σ (by omega) hR
  rw [show N + 199 - aS A + aS A + 1 = N + 200 by omega] at e1
  exact ⟨σ', e1, o1, fun q hq => g q (Nat.zero_le _) hq⟩
theorem x_share6 {N : Nat} {A : Ab} (hA : AOK A) {a : Nat} (ha : a < aS A) {row : Nat → Nat} {σ : Sg} (hR : CR A σ) (h57 : al σ 57 a = lN (row a)) : ∃ σ', f_X3_share (N + 200) (nI a) σ = some σ' ∧ OG 58 σ σ' ∧ ∀ q, q < aS A → al σ' 58 q = al σ 58 q + lN (cti A true row a q) := by
  have hS7 := hA.1.1
  have hs : opS A a < 128 := p2_le hS7 (setB_lt _ _)
  have hp := popc_le _ hs
  have l0 : ∀ x : Int64, x + lN 0 = x := fun x => Int64.add_zero x
  unfold f_X3_share
  rw [nI_clamp (by omega), hR.2.1 a ha]
  by_cases h0 : popc (opS A a) = 0
  · refine ⟨sal σ 58 a (al σ 58 a + lN (row a * 60)), gd_k (inb_nI (by omega) (by decide)) (bd2_k (x_bits hs) (if_T ?_ (gd_k (inb_nI (by omega) (by decide)) (gd_k (inb_nI (by omega) (by decide)) (gd_k (inb_nI (by omega) (by decide)) (nm_k ?_)))))), (OG.rf 58 σ).sal _ _, fun q hq => ?_⟩
    · rw [h0]
      rfl
    · rw [h57, ll_60, lN_mul]
    · unfold cti
      rw [if_pos rfl, if_pos h0]
      by_cases e : q = a
      · subst e
        rw [al_s2 ⟨rfl, rfl⟩, if_pos rfl]
      · rw [al_s1 (by omega), if_neg e, l0]
  · obtain ⟨σ', e1, o1, g1⟩ := x_give6z (N := N) hA ha (e := row a * (60 / popc (opS A a))) hR
    refine ⟨σ', gd_k (inb_nI (by omega) (by decide)) (bd2_k (x_bits hs) (if_F ?_ (gd_k (inb_nI (by omega) (by decide)) (gd_k ?_ (bd_k ?_ rfl))))), o1, fun q hq => ?_⟩
    · exact of_eq_false (ieq_F h0 (by omega) (by decide))
    · exact decide_eq_true (of_eq_false (ieq_F h0 (by omega) (by decide)))
    · rw [h57, l_60, pk_div (by decide) (by omega) (by omega), nI_l (Nat.lt_of_le_of_lt (Nat.div_le_self _ _) (by decide)), lN_mul]
      exact e1
    · rw [g1 q hq]
      unfold cti
      rw [if_pos rfl, if_neg h0]
      by_cases hb : opB A a q = true
      · rw [if_pos hb, if_pos hb]
      · rw [if_neg hb, if_neg hb, l0]
theorem x_walk25 {N : Nat} {A : Ab} (hA : AOK A) {row : Nat → Nat} (k8 : Int32 → Int32 → Int32 → Sg → Option (Int64 × Sg)) {x y : Int32} {t : Nat} : ∀ m n a σ, a + m = aS A → CR A σ → (∀ j, j < aS A → al σ 57 j = lN (row j)) → (∀ j, j < aS A → al σ 58 j = lN (nxr A false row a j)) → ∃ σ', b_X3_walks_25 (N + 200) k8 (n + m + 1) x y (nI t) (nI a) σ = k8 x y (nI (t + 1)) σ' ∧ OA σ σ' ∧ ∀ j, j < aS A → al σ' 57 j = lN (nxr A false row (aS A) j)
  | 0, n, a, σ, hj, hR, h57, h58 => by
    have hS7 := hA.1.1
    have e : a = aS A := by omega
    subst e
    refine ⟨srowl σ 57 (va_cpy (al σ 58) (al σ 57) 0 0 7), ?_, ⟨rfl, rfl⟩, fun j hj => ?_⟩
    · show b_X3_walks_25b (N + 200) k8 (b_X3_walks_25 (N + 200) k8 n) _ _ _ _ _ = _
      unfold b_X3_walks_25b
      rw [hR.1, l_1, nI_add]
      exact if_T (of_eq_true (ile_T (Nat.le_refl _) (by omega))) rfl
    · rw [al_srowl, if_pos rfl, pk_cpy_in (Nat.zero_le _) (by omega), Nat.sub_zero, Nat.zero_add]
      exact h58 j hj
  | m + 1, n, a, σ, hj, hR, h57, h58 => by
    have hS7 := hA.1.1
    have ha : a < aS A := by omega
    have l0 : ∀ x : Int64, x + lN 0 = x := fun x => Int64.add_zero x
    obtain ⟨σ1, e1, o1, g1⟩ := x_give6z (N := N) hA ha (e := row a) hR
    obtain ⟨σ2, e2, o2, g2⟩ := x_walk25 (N := N) hA (row := row) k8 (x := x) (y := y) (t := t) m n (a + 1) σ1 (by omega) (hR.oa o1.oa) (fun j hj => by rw [o1.2.2 57 (by decide)]; exact h57 j hj) (fun j hj => by
      rw [g1 j hj, h58 j hj]
      show _ = lN (nxr A false row a j + cti A false row a j)
      unfold cti
      rw [if_neg Bool.false_ne_true]
      split
      · rw [lN_add]
      · rfl)
    refine ⟨σ2, ?_, o1.oa.tr o2, g2⟩
    show b_X3_walks_25b (N + 200) k8 (b_X3_walks_25 (N + 200) k8 (n + m + 1)) _ _ _ _ _ = _
    unfold b_X3_walks_25b
    rw [hR.1, nI_clamp (by omega), h57 a ha, l_1, nI_add, nI_add]
    exact if_F (of_eq_false (ile_F ha (by omega))) (gd_k (inb_nI (by omega) (by decide)) (bd_k e1 (nm_k e2)))
theorem x_walk8 {N : Nat} {A : Ab} (hA : AOK A) {one to n0 : Nat} (hto : to < aS A) (hn0 : n0 ≤ 20) : ∀ m n t σ, t + m = n0 → CR A σ → (∀ j, j < aS A → al σ 57 j = lN (rwn A false one t j)) → ∃ σ', b_X3_walks_8 (N + 200) (n + m + 1) (nI to) (nI n0) (nI t) σ = some (lN (rwn A false one n0 to), σ') ∧ OA σ σ'
  | 0, n, t, σ, hj, hR, h57 => by
    have hS7 := hA.1.1
    have e : t = n0 := by omega
    subst e
    refine ⟨σ, ?_, rfl, rfl⟩
    show b_X3_walks_8b (N + 200) (b_X3_walks_8 (N + 200) n) _ _ _ _ = _
    unfold b_X3_walks_8b
    rw [nI_clamp (by omega), h57 to hto]
    exact if_T (of_eq_true (ile_T (Nat.le_refl _) (by omega))) (gd_k (inb_nI (by omega) (by decide)) rfl)
  | m + 1, n, t, σ, hj, hR, h57 => by
    have hS7 := hA.1.1
    obtain ⟨σ1, e1, o1, g1, -⟩ := x_fill58 (N := N + 200) (v := 0) 7 (N + 192) 0 σ (by omega)
    rw [show N + 192 + 7 + 1 = N + 200 by omega] at e1
    obtain ⟨σ2, e2, o2, g2⟩ := x_walk25 (N := N) hA (row := rwn A false one t) (b_X3_walks_8 (N + 200) (n + m + 1)) (x := nI to) (y := nI n0) (t := t) (aS A) (N + 199 - aS A) 0 σ1 (by omega) (hR.oa o1.oa) (fun j hj => by rw [o1.2.2 57 (by decide)]; exact h57 j hj) (fun j hj => g1 j (Nat.zero_le _) (by omega))
    rw [show N + 199 - aS A + aS A + 1 = N + 200 by omega] at e2
    obtain ⟨σ3, e3, o3⟩ := x_walk8 (N := N) hA hto hn0 (one := one) m n (t + 1) σ2 (by omega) ((hR.oa o1.oa).oa o2) g2
    refine ⟨σ3, ?_, (o1.oa.tr o2).tr o3⟩
    show b_X3_walks_8b (N + 200) (b_X3_walks_8 (N + 200) (n + m + 1)) _ _ _ _ = _
    unfold b_X3_walks_8b
    exact if_F (of_eq_false (ile_F (by omega : t < n0) (by omega))) (bd_k e1 (e2.trans e3))
/-! the model's -/
theorem x_beg7 {N : Nat} {one : Nat} (h1 : one < 7) : ∀ m n j σ, j + m = 7 → ∃ σ', b_X7_begins_2 N (n + m + 1) (nI one) (nI j) σ = some σ' ∧ OG 80 σ σ' ∧ (∀ q, j ≤ q → q < 7 → al σ' 80 q = lN (if q = one then 1 else 0)) ∧ ∀ q, q < j → al σ' 80 q = al σ 80 q
  | 0, n, j, σ, hj => by
    have e : j = 7 := by omega
    subst e
    refine ⟨σ, ?_, OG.rf 80 σ, fun q h1 h2 => by omega, fun q h => rfl⟩
    show b_X7_begins_2b N (b_X7_begins_2 N n) _ _ _ = _
    unfold b_X7_begins_2b
    exact if_T (of_eq_true (ile_T (Nat.le_refl 7) (by decide))) rfl
  | m + 1, n, j, σ, hj => by
    have hj7 : j < 7 := by omega
    obtain ⟨σ', e, o, g, g2⟩ := x_beg7 (N := N) h1 m n (j + 1) (sal σ 80 j (lN (if j = one then 1 else 0))) (by omega)
    refine ⟨σ', ?_, ((OG.rf 80 σ).sal j _).tr o, fun q h1 h2 => ?_, fun q h => ?_⟩
    · show b_X7_begins_2b N (b_X7_begins_2 N (n + m + 1)) _ _ _ = _
      unfold b_X7_begins_2b b_X7_begins_23
      rw [nI_clamp (by omega), l_1, nI_add]
      refine if_F (of_eq_false (ile_F hj7 (by decide))) ?_
      by_cases q : j = one
      · rw [if_pos q] at e
        exact if_T (by rw [q]) (gd_k (inb_nI hj7 (by decide)) (nm_k (nm_k e)))
      · rw [if_neg q] at e
        exact if_F (of_eq_false (ieq_F q (by omega) (by omega))) (gd_k (inb_nI hj7 (by decide)) (nm_k (nm_k e)))
    · by_cases hq : q = j
      · subst hq
        rw [g2 q (by omega), al_s2 ⟨rfl, rfl⟩]
      · exact g q (by omega) h2
    · rw [g2 q (by omega), al_s1 (by omega)]
theorem x_go151 {N : Nat} : ∀ m n j σ, j + m = 7 → ∃ σ', b_X7_goesOn_151 N (n + m + 1) (nI j) σ = some σ' ∧ OG 80 σ σ' ∧ (∀ q, j ≤ q → q < 7 → al σ' 80 q = al σ 81 q) ∧ ∀ q, q < j → al σ' 80 q = al σ 80 q
  | 0, n, j, σ, hj => by
    have e : j = 7 := by omega
    subst e
    refine ⟨σ, ?_, OG.rf 80 σ, fun q h1 h2 => by omega, fun q h => rfl⟩
    show b_X7_goesOn_151b N (b_X7_goesOn_151 N n) _ _ = _
    unfold b_X7_goesOn_151b
    exact if_T (of_eq_true (ile_T (Nat.le_refl 7) (by decide))) rfl
  | m + 1, n, j, σ, hj => by
    have hj7 : j < 7 := by omega
    obtain ⟨σ', e, o, g, g2⟩ := x_go151 (N := N) m n (j + 1) (sal σ 80 j (al σ 81 j)) (by omega)
    refine ⟨σ', ?_, ((OG.rf 80 σ).sal j _).tr o, fun q h1 h2 => ?_, fun q h => ?_⟩
    · show b_X7_goesOn_151b N (b_X7_goesOn_151 N (n + m + 1)) _ _ = _
      unfold b_X7_goesOn_151b
      rw [nI_clamp (by omega), l_1, nI_add]
      exact if_F (of_eq_false (ile_F hj7 (by decide))) (gd_k (inb_nI hj7 (by decide)) (gd_k (inb_nI hj7 (by decide)) (nm_k (nm_k e))))
    · by_cases hq : q = j
      · subst hq
        rw [g2 q (by omega), al_s2 ⟨rfl, rfl⟩]
      · rw [g q (by omega) h2, al_s1 (by omega)]
    · rw [g2 q (by omega), al_s1 (by omega)]
theorem x_go2 {N : Nat} {x : Int32} : ∀ m n j σ, j + m = 7 → ∃ σ', b_X7_goesOn_2 N (n + m + 1) x (nI j) σ = b_X7_goesOn_23 N N x 0 σ' ∧ OG 81 σ σ' ∧ (∀ q, j ≤ q → q < 7 → al σ' 81 q = lN 0) ∧ ∀ q, q < j → al σ' 81 q = al σ 81 q
  | 0, n, j, σ, hj => by
    have e : j = 7 := by omega
    subst e
    refine ⟨σ, ?_, OG.rf 81 σ, fun q h1 h2 => by omega, fun q h => rfl⟩
    show b_X7_goesOn_2b N (b_X7_goesOn_2 N n) _ _ _ = _
    unfold b_X7_goesOn_2b
    exact if_T (of_eq_true (ile_T (Nat.le_refl 7) (by decide))) rfl
  | m + 1, n, j, σ, hj => by
    have hj7 : j < 7 := by omega
    obtain ⟨σ', e, o, g, g2⟩ := x_go2 (N := N) (x := x) m n (j + 1) (sal σ 81 j (lN 0)) (by omega)
    refine ⟨σ', ?_, ((OG.rf 81 σ).sal j _).tr o, fun q h1 h2 => ?_, fun q h => ?_⟩
    · show b_X7_goesOn_2b N (b_X7_goesOn_2 N (n + m + 1)) _ _ _ = _
      unfold b_X7_goesOn_2b
      rw [nI_clamp (by omega), l_1, nI_add, ll_0]
      exact if_F (of_eq_false (ile_F hj7 (by decide))) (gd_k (inb_nI hj7 (by decide)) (nm_k (nm_k e)))
    · by_cases hq : q = j
      · subst hq
        rw [g2 q (by omega), al_s2 ⟨rfl, rfl⟩]
      · exact g q (by omega) h2
    · rw [g2 q (by omega), al_s1 (by omega)]
theorem x_go80 {N : Nat} {A : Ab} (hA : AOK A) {ch : Bool} {a : Nat} (ha : a < aS A) {row : Nat → Nat} (k23 : Int32 → Int32 → Sg → Option Sg) {p : Nat} (hp : p = popc (opS A a)) : ∀ m n j σ, j + m = aS A → ar σ 61 0 = nI (aS A) → al σ 80 a = lN (row a) → ∃ σ', b_X7_goesOn_80 N k23 (n + m + 1) (nI ch.toNat) (nI a) (nI (opS A a)) (nI p) (nI j) σ = k23 (nI ch.toNat) (nI (a + 1)) σ' ∧ OG 81 σ σ' ∧ (∀ q, q < j → al σ' 81 q = al σ 81 q) ∧ ∀ q, j ≤ q → q < aS A → al σ' 81 q = if opB A a q = true then al σ 81 q + lN (if ch = true then row a * (60 / p) else row a) else al σ 81 q
  | 0, n, j, σ, hj, h61, h80 => by
    have hS7 := hA.1.1
    have e : j = aS A := by omega
    subst e
    have m1 : ar σ 61 (0 : Int32).toNatClampNeg = nI (aS A) := h61
    refine ⟨σ, ?_, OG.rf 81 σ, fun q _ => rfl, fun q h1 h2 => by omega⟩
    show b_X7_goesOn_80b N k23 (b_X7_goesOn_80 N k23 n) _ _ _ _ _ _ = _
    unfold b_X7_goesOn_80b
    rw [m1, l_1, nI_add]
    exact gd_k rfl (if_T (of_eq_true (ile_T (Nat.le_refl _) (by omega))) rfl)
  | m + 1, n, j, σ, hj, h61, h80 => by
    have hS7 := hA.1.1
    have hjS : j < aS A := by omega
    have m1 : ar σ 61 (0 : Int32).toNatClampNeg = nI (aS A) := h61
    have hs : opS A a < 128 := p2_le hS7 (setB_lt _ _)
    have hp7 := popc_le _ hs
    by_cases hb : opB A a j = true
    · obtain ⟨σ', e1, o1, g1, g2⟩ := x_go80 (N := N) hA (ch := ch) ha (row := row) k23 hp m n (j + 1) (sal σ 81 j (al σ 81 j + lN (if ch = true then row a * (60 / p) else row a))) (by omega) h61 (by rw [al_ne (by decide)]; exact h80)
      refine ⟨σ', ?_, ((OG.rf 81 σ).sal j _).tr o1, fun q hq => ?_, fun q h1 h2 => ?_⟩
      · show b_X7_goesOn_80b N k23 (b_X7_goesOn_80 N k23 (n + m + 1)) _ _ _ _ _ _ = _
        unfold b_X7_goesOn_80b b_X7_goesOn_135 b_X7_goesOn_137
        rw [m1, nI_clamp (by omega), nI_clamp (by omega), l_31, l_1, bit_1 _ hs j (by omega), opB_bit hjS, hb, nI_add, nI_add, h80]
        refine gd_k rfl (if_F (of_eq_false (ile_F hjS (by omega))) (if_T rfl (gd_k (inb_nI (by omega) (by decide)) ?_)))
        cases ch
        · rw [if_neg Bool.false_ne_true] at e1
          exact if_T rfl (gd_k (inb_nI (by omega) (by decide)) (gd_k (inb_nI (by omega) (by decide)) (nm_k (nm_k e1))))
        · rw [if_pos rfl] at e1
          have hp0 : ¬ p = 0 := fun q => by
            have := opB_p0 hA hjS (hp ▸ q)
            rw [hb] at this
            cases this
          refine if_F (by decide) (gd_k ?_ (gd_k (inb_nI (by omega) (by decide)) (gd_k (inb_nI (by omega) (by decide)) (nm_k (nm_k ?_)))))
          · exact decide_eq_true (of_eq_false (ieq_F hp0 (by omega) (by decide)))
          · rw [l_60, pk_div (by decide) (by omega) (by omega), nI_l (Nat.lt_of_le_of_lt (Nat.div_le_self _ _) (by decide)), lN_mul, Nat.mul_comm]
            exact e1
      · rw [g1 q (by omega), al_s1 (by omega)]
      · by_cases hq : q = j
        · subst hq
          rw [g1 q (by omega), al_s2 ⟨rfl, rfl⟩, if_pos hb]
        · rw [g2 q (by omega) h2, al_s1 (by omega)]
    · obtain ⟨σ', e1, o1, g1, g2⟩ := x_go80 (N := N) hA (ch := ch) ha (row := row) k23 hp m n (j + 1) σ (by omega) h61 h80
      refine ⟨σ', ?_, o1, fun q hq => g1 q (by omega), fun q h1 h2 => ?_⟩
      · show b_X7_goesOn_80b N k23 (b_X7_goesOn_80 N k23 (n + m + 1)) _ _ _ _ _ _ = _
        unfold b_X7_goesOn_80b b_X7_goesOn_137
        rw [m1, l_31, l_1, bit_1 _ hs j (by omega), opB_bit hjS, if_neg hb, nI_add, nI_add]
        exact gd_k rfl (if_F (of_eq_false (ile_F hjS (by omega))) (if_F (by decide) (nm_k e1)))
      · by_cases hq : q = j
        · subst hq
          rw [g1 q (by omega), if_neg hb]
        · exact g2 q (by omega) h2
theorem x_go23 {N : Nat} {A : Ab} (hA : AOK A) {ch : Bool} {row : Nat → Nat} : ∀ m n a σ, a + m = aS A → RM 61 A σ → (∀ j, j < aS A → al σ 80 j = lN (row j)) → (∀ j, j < aS A → al σ 81 j = lN (nxr A ch row a j)) → ∃ σ', b_X7_goesOn_23 (N + 200) (n + m + 1) (nI ch.toNat) (nI a) σ = some σ' ∧ OA σ σ' ∧ ∀ j, j < aS A → al σ' 80 j = lN (nxr A ch row (aS A) j)
  | 0, n, a, σ, hj, hM, h80, h81 => by
    have hS7 := hA.1.1
    have e : a = aS A := by omega
    subst e
    have m1 : ar σ 61 (0 : Int32).toNatClampNeg = nI (aS A) := hM.1.1
    obtain ⟨σ1, e1, o1, g1, -⟩ := x_go151 (N := N + 200) 7 (N + 192) 0 σ (by omega)
    rw [show N + 192 + 7 + 1 = N + 200 by omega] at e1
    refine ⟨σ1, ?_, o1.oa, fun j hj => (g1 j (Nat.zero_le _) (by omega)).trans (h81 j hj)⟩
    show b_X7_goesOn_23b (N + 200) (b_X7_goesOn_23 (N + 200) n) _ _ _ = _
    unfold b_X7_goesOn_23b
    rw [m1]
    exact gd_k rfl (if_T (of_eq_true (ile_T (Nat.le_refl _) (by omega))) e1)
  | m + 1, n, a, σ, hj, hM, h80, h81 => by
    have hS7 := hA.1.1
    have ha : a < aS A := by omega
    have m1 : ar σ 61 (0 : Int32).toNatClampNeg = nI (aS A) := hM.1.1
    have hs : opS A a < 128 := p2_le hS7 (setB_lt _ _)
    have hp7 := popc_le _ hs
    have l0 : ∀ x : Int64, x + lN 0 = x := fun x => Int64.add_zero x
    let u : Nat := if ch = true ∧ popc (opS A a) = 0 then row a * 60 else 0
    have o0 : OG 81 σ (sal σ 81 a (al σ 81 a + lN u)) := (OG.rf 81 σ).sal a _
    obtain ⟨σ1, e1, o1, -, g1⟩ := x_go80 (N := N + 200) hA (ch := ch) ha (row := row) (b_X7_goesOn_23 (N + 200) (n + m + 1)) (p := popc (opS A a)) rfl (aS A) (N + 199 - aS A) 0 (sal σ 81 a (al σ 81 a + lN u)) (by omega) hM.1.1 (by rw [al_ne (by decide)]; exact h80 a ha)
    rw [show N + 199 - aS A + aS A + 1 = N + 200 by omega] at e1
    have o01 : OA σ σ1 := o0.oa.tr o1.oa
    obtain ⟨σ2, e2, o2, g2⟩ := x_go23 (N := N) hA (ch := ch) (row := row) m n (a + 1) σ1 (by omega) (hM.smm o01.sm) (fun j hj => by rw [o1.2.2 80 (by decide), al_ne (by decide)]; exact h80 j hj) (fun j hj => by
      rw [g1 j (Nat.zero_le _) hj]
      show _ = lN (nxr A ch row a j + cti A ch row a j)
      have hu : al (sal σ 81 a (al σ 81 a + lN u)) 81 j = lN (nxr A ch row a j + (if j = a then u else 0)) := by
        by_cases q : j = a
        · rw [q, al_s2 ⟨rfl, rfl⟩, h81 a ha, lN_add, if_pos rfl]
        · rw [al_s1 (by omega), h81 j hj, if_neg q]
          rfl
      rw [hu]
      unfold cti
      cases ch
      · rw [if_neg Bool.false_ne_true, if_neg Bool.false_ne_true]
        have hu0 : u = 0 := if_neg (fun q => by cases q.1)
        rw [hu0]
        have hz : (if j = a then 0 else 0) = 0 := by split <;> rfl
        rw [hz, Nat.add_zero]
        split
        · rw [lN_add]
        · rfl
      · rw [if_pos rfl, if_pos rfl]
        by_cases hp0 : popc (opS A a) = 0
        · have hu0 : u = row a * 60 := if_pos ⟨rfl, hp0⟩
          rw [if_neg (by rw [opB_p0 hA hj hp0]; decide), if_pos hp0, hu0]
        · have hu0 : u = 0 := if_neg (fun q => hp0 q.2)
          rw [hu0, if_neg hp0]
          have hz : (if j = a then 0 else 0) = 0 := by split <;> rfl
          rw [hz, Nat.add_zero]
          split
          · rw [lN_add]
          · rfl)
    refine ⟨σ2, ?_, o01.tr o2, g2⟩
    have go : ∀ v : Int64, v = lN u → b_X7_goesOn_75 (N + 200) (b_X7_goesOn_23 (N + 200) (n + m + 1)) (nI ch.toNat) (nI a) (nI (opS A a)) (nI (popc (opS A a))) (nI a) (al σ 81 a) v σ = some σ2 := by
      intro v hv
      unfold b_X7_goesOn_75
      rw [nI_clamp (by omega), hv]
      exact gd_k (inb_nI (by omega) (by decide)) (nm_k (e1.trans e2))
    show b_X7_goesOn_23b (N + 200) (b_X7_goesOn_23 (N + 200) (n + m + 1)) _ _ _ = _
    unfold b_X7_goesOn_23b b_X7_goesOn_74
    rw [m1]
    refine gd_k rfl (if_F (of_eq_false (ile_F ha (by omega))) (bd2_k (x_from7 (N := N + 192) hA hM ha) (bd2_k (x_count1 (N := N + 192) hs) (gd_k (inb_nI (by omega) (by decide)) ?_))))
    rw [nI_clamp (by omega), h80 a ha]
    cases ch
    · refine if_T rfl (go _ ?_)
      rw [show u = 0 from if_neg (fun q => by cases q.1)]
      rfl
    · refine if_F (by decide) ?_
      by_cases hp0 : popc (opS A a) = 0
      · refine if_T (by rw [hp0]; rfl) (gd_k (inb_nI (by omega) (by decide)) (go _ ?_))
        rw [show u = row a * 60 from if_pos ⟨rfl, hp0⟩, ll_60, lN_mul, Nat.mul_comm]
      · refine if_F (of_eq_false (ieq_F hp0 (by omega) (by decide))) (go _ ?_)
        rw [show u = 0 from if_neg (fun q => hp0 q.2)]
        rfl
theorem x_go7 {N : Nat} {A : Ab} (hA : AOK A) {ch : Bool} {one t : Nat} {σ : Sg} (hM : RM 61 A σ) (h80 : ∀ j, j < aS A → al σ 80 j = lN (rwn A ch one t j)) : ∃ σ', f_X7_goesOn (N + 200) (nI ch.toNat) σ = some σ' ∧ OA σ σ' ∧ ∀ j, j < aS A → al σ' 80 j = lN (rwn A ch one (t + 1) j) := by
  have hS7 := hA.1.1
  obtain ⟨σ1, e1, o1, g1, -⟩ := x_go2 (N := N + 200) (x := nI ch.toNat) 7 (N + 192) 0 σ (by omega)
  rw [show N + 192 + 7 + 1 = N + 200 by omega] at e1
  obtain ⟨σ2, e2, o2, g2⟩ := x_go23 (N := N) hA (ch := ch) (row := rwn A ch one t) (aS A) (N + 199 - aS A) 0 σ1 (by omega) (hM.smm o1.oa.sm) (fun j hj => by rw [o1.2.2 80 (by decide)]; exact h80 j hj) (fun j hj => g1 j (Nat.zero_le _) (by omega))
  rw [show N + 199 - aS A + aS A + 1 = N + 200 by omega] at e2
  exact ⟨σ2, e1.trans e2, o1.oa.tr o2, g2⟩
theorem x_ways38 {N : Nat} {A : Ab} (hA : AOK A) {one to n0 : Nat} (hto : to < aS A) (hn0 : n0 ≤ 20) : ∀ m n t σ, t + m = n0 → RM 61 A σ → (∀ j, j < aS A → al σ 80 j = lN (rwn A false one t j)) → ∃ σ', b_X7_ways_38 (N + 200) (n + m + 1) (nI to) (nI n0) (nI t) σ = some (lN (rwn A false one n0 to), σ') ∧ OA σ σ'
  | 0, n, t, σ, hj, hM, h80 => by
    have hS7 := hA.1.1
    have e : t = n0 := by omega
    subst e
    refine ⟨σ, ?_, rfl, rfl⟩
    show b_X7_ways_38b (N + 200) (b_X7_ways_38 (N + 200) n) _ _ _ _ = _
    unfold b_X7_ways_38b
    rw [nI_clamp (by omega), h80 to hto]
    exact if_T (of_eq_true (ile_T (Nat.le_refl _) (by omega))) (gd_k (inb_nI (by omega) (by decide)) rfl)
  | m + 1, n, t, σ, hj, hM, h80 => by
    have hS7 := hA.1.1
    obtain ⟨σ1, e1, o1, g1⟩ := x_go7 (N := N) hA (ch := false) hM h80
    obtain ⟨σ2, e2, o2⟩ := x_ways38 (N := N) hA hto hn0 (one := one) m n (t + 1) σ1 (by omega) (hM.smm o1.sm) g1
    refine ⟨σ2, ?_, o1.tr o2⟩
    show b_X7_ways_38b (N + 200) (b_X7_ways_38 (N + 200) (n + m + 1)) _ _ _ _ = _
    unfold b_X7_ways_38b
    rw [l_1, nI_add]
    exact if_F (of_eq_false (ile_F (by omega : t < n0) (by omega))) (bd_k e1 (nm_k e2))
theorem op_ways {N : Nat} {σ : Sg} {A : Ab} (hI : Inv A σ) (x y z : Int32) : Okl (f_X6_ways (N + 200) x y z) (f_X7_ways (N + 200) x y z) σ := by
  obtain ⟨⟨hS7, hD99, hT100, hW5, hZ7⟩, hAS, hAT, hAZ, hAW, hAW0⟩ := id hI.1
  obtain ⟨-, hC, hM, hK, r, hr, r1, r2, r3⟩ := id hI
  obtain ⟨⟨c1, c2, c3, c4, c5⟩, cS, cT, cZ, cW⟩ := id hC
  obtain ⟨⟨m1, m2, m3, m4, m5, m6⟩, mS, mT, mZ, mW⟩ := id hM
  unfold f_X6_ways f_X7_ways
  rcases i_cases x with h | ⟨a, ha, rfl⟩
  · exact ⟨_, σ, σ, A, bd2_k (x_both_F1 (x_has_lo h)) (if_T n00 rfl), bd2_k (x_isS_lo h) (if_T n00 rfl), hI⟩
  by_cases haS : aS A ≤ a
  · exact ⟨_, σ, σ, A, bd2_k (x_both_F1 (x_has_F c1 hS7 haS ha)) (if_T n00 rfl), bd2_k (x_isS_F m1 hS7 haS ha) (if_T n00 rfl), hI⟩
  have haS' : a < aS A := by omega
  rcases i_cases y with h | ⟨b, hb, rfl⟩
  · exact ⟨_, σ, σ, A, bd2_k (x_both_F2 (x_has_T c1 hS7 haS') (x_has_lo h)) (if_T n00 rfl), bd2_k (x_isS_T m1 hS7 haS') (if_F n10 (bd2_k (x_isS_lo h) (if_T n00 rfl))), hI⟩
  by_cases hbS : aS A ≤ b
  · exact ⟨_, σ, σ, A, bd2_k (x_both_F2 (x_has_T c1 hS7 haS') (x_has_F c1 hS7 hbS hb)) (if_T n00 rfl), bd2_k (x_isS_T m1 hS7 haS') (if_F n10 (bd2_k (x_isS_F m1 hS7 hbS hb) (if_T n00 rfl))), hI⟩
  have hbS' : b < aS A := by omega
  rcases i_cases z with h | ⟨n, hn, rfl⟩
  · exact ⟨_, σ, σ, A, bd2_k (x_both_T c1 hS7 haS' hbS') (if_F n10 (if_T h rfl)), bd2_k (x_isS_T m1 hS7 haS') (if_F n10 (bd2_k (x_isS_T m1 hS7 hbS') (if_F n10 (bd2_k (x_in_lo h (by decide) _) (if_T n00 rfl))))), hI⟩
  by_cases hn20 : 20 < n
  · exact ⟨_, σ, σ, A, bd2_k (x_both_T c1 hS7 haS' hbS') (if_F n10 (if_F (of_eq_false (ilt_F (Nat.zero_le _) hn)) (if_F (of_eq_false (ile_F hn20 hn)) rfl))), bd2_k (x_isS_T m1 hS7 haS') (if_F n10 (bd2_k (x_isS_T m1 hS7 hbS') (if_F n10 (bd2_k (x_in_F (Or.inr hn20) hn (by decide) (by decide)) (if_T n00 rfl))))), hI⟩
  have hn20' := Nat.le_of_not_lt hn20
  obtain ⟨σ1, e1, s1, q1⟩ := x_load3 (N := N) hI.1 hC
  obtain ⟨σ2, e2, o2, g2⟩ := x_begin6 (N := N) (ch := false) (σ := σ1) hI.1 haS'
  obtain ⟨σ3, e3, o3⟩ := x_walk8 (N := N) hI.1 (one := a) hbS' hn20' n (N + 199 - n) 0 σ2 (by omega) (q1.oa o2) g2
  rw [show N + 199 - n + n + 1 = N + 200 by omega] at e3
  have hI3 := ((hI.sm s1).sm o2.sm).sm o3.sm
  have hM3 := hI3.2.2.1
  obtain ⟨σ4, e4, o4, g4, -⟩ := x_beg7 (N := N + 200) (one := a) (by omega) 7 (N + 192) 0 σ3 (by omega)
  rw [show N + 192 + 7 + 1 = N + 200 by omega] at e4
  obtain ⟨σ5, e5, o5⟩ := x_ways38 (N := N) hI.1 (one := a) hbS' hn20' n (N + 199 - n) 0 σ4 (by omega) (hM3.smm o4.oa.sm) (fun j hj => g4 j (Nat.zero_le _) (by omega))
  rw [show N + 199 - n + n + 1 = N + 200 by omega] at e5
  exact ⟨lN (rwn A false a n b), σ3, σ5, A, bd2_k (x_both_T c1 hS7 haS' hbS') (if_F n10 (if_F (of_eq_false (ilt_F (Nat.zero_le _) hn)) (if_T (of_eq_true (ile_T hn20' (by decide))) (bd_k e1 (bd2_k (bd_k e2 e3) rfl))))), bd2_k (x_isS_T hM3.1.1 hS7 haS') (if_F n10 (bd2_k (x_isS_T hM3.1.1 hS7 hbS') (if_F n10 (bd2_k (x_in_T (Nat.zero_le _) hn20' (by decide)) (if_F n10 (bd_k e4 e5)))))), (hI3.sm o4.oa.sm).sm o5.sm⟩
