/-! what is allowed, fines, steps, who pays -/
theorem tsum_le (F : Nat → Nat) (w : Nat) : ∀ t : Tw, (∀ q ∈ t, q.2.1 < 100) → tsum F w t ≤ 99 * t.length
  | [], _ => Nat.le_refl _
  | q :: t, h => by
    have h1 := tsum_le F w t (fun p hp => h p (List.mem_cons_of_mem _ hp))
    have h2 := h q List.mem_cons_self
    show (if q.1 = w ∧ (evs F q.2.2 []).headD false = true then q.2.1 else 0) + tsum F w t ≤ 99 * (t.length + 1)
    split <;> omega
theorem tsum_990 {A : Ab} (hA : AOK A) (k w : Nat) : tsum (fct A k) w (tw A) ≤ 990 := by
  obtain ⟨t1, t2, t3⟩ := hA.2.2.2.2.1
  have := tsum_le (fct A k) w (tw A) (fun q hq => (t3 q hq).2.1)
  omega
def alw (A : Ab) (k : Nat) : Nat := if kd A k = 4 then 9999 else if kd A k = 1 ∧ aD A % 7 = 0 then tsum (fct A k) 2 (tw A) + vv A k else tsum (fct A k) 2 (tw A)
def fin (A : Ab) (k : Nat) : Nat := if kd A k = 2 ∨ kd A k = 5 then (10 + tsum (fct A k) 0 (tw A)) / 2 else 10 + tsum (fct A k) 0 (tw A)
def ste (A : Ab) (k : Nat) : Nat := if kd A k = 5 then tsum (fct A k) 1 (tw A) else 1 + tsum (fct A k) 1 (tw A)
def pay (A : Ab) (k : Nat) : Nat := fin A k * (un A k - alw A k)
theorem alw_le {A : Ab} (hA : AOK A) {k : Nat} (hk : k < aS A) : alw A k ≤ 9999 := by
  have h := tsum_990 hA k 2
  obtain ⟨p1, p2, -⟩ := hA.2.1 k hk
  unfold alw
  split
  · omega
  split <;> omega
theorem fin_le {A : Ab} (hA : AOK A) (k : Nat) : fin A k ≤ 1000 := by
  have h := tsum_990 hA k 0
  unfold fin
  split <;> omega
theorem ste_le {A : Ab} (hA : AOK A) (k : Nat) : ste A k ≤ 991 := by
  have h := tsum_990 hA k 1
  unfold ste
  split <;> omega
theorem un_le {A : Ab} (hA : AOK A) {k : Nat} (hk : k < aS A) : un A k ≤ 9999 := by
  obtain ⟨p1, p2, p3, p4, -⟩ := hA.2.1 k hk
  unfold un
  omega
theorem pay_lt {A : Ab} (hA : AOK A) {k : Nat} (hk : k < aS A) : pay A k < 2 ^ 31 := by
  have h1 := fin_le hA k
  have h2 := un_le hA hk
  have h3 : un A k - alw A k ≤ 9999 := by omega
  have := Nat.mul_le_mul h1 h3
  unfold pay
  omega
theorem x_unev6 {N : Nat} {σ : Sg} {A : Ab} (hA : AOK A) (hC : RC 1 10 3 26 A σ) {k : Nat} (hk : k < aS A) : f_X4_uneven N (nI k) σ = some (nI (ii A k) - nI (oo A k), σ) := by
  have hS7 := hA.1.1
  obtain ⟨d1, d2, d3, d4, d5⟩ := hC.2.1 k hk
  unfold f_X4_uneven
  refine gd_k (inb_nI (by omega) (by decide)) (gd_k (inb_nI (by omega) (by decide)) ?_)
  rw [nI_clamp (by omega), d3, d4]
theorem x_al6 {N : Nat} {σ : Sg} {A : Ab} (hA : AOK A) (hC : RC 1 10 3 26 A σ) {k : Nat} (hk : k < aS A) : ∃ σ', f_X4_allowed (N + 200) (nI k) σ = some (nI (alw A k), σ') ∧ O30 σ σ' := by
  obtain ⟨σ1, e1, o1⟩ := x_sum6 (N := N) hA hC hk (w := 2) (by decide)
  have hC1 := hC.o30 o1
  obtain ⟨p1, p2, p3, p4, p5, p6⟩ := hA.2.1 k hk
  obtain ⟨⟨hS7, hD99, -⟩, -⟩ := hA
  obtain ⟨d1, d2, d3, d4, d5⟩ := hC.2.1 k hk
  obtain ⟨⟨-, c2', -⟩, cS', -⟩ := hC1
  obtain ⟨d1', d2', -⟩ := cS' k hk
  unfold f_X4_allowed
  by_cases h4 : kd A k = 4
  · rw [show alw A k = 9999 from if_pos h4]
    refine ⟨σ, gd_k (inb_nI (by omega) (by decide)) (if_T ?_ rfl), O30.rf σ⟩
    rw [nI_clamp (by omega), d1, h4]
    rfl
  have ea : alw A k = if kd A k = 1 ∧ aD A % 7 = 0 then tsum (fct A k) 2 (tw A) + vv A k else tsum (fct A k) 2 (tw A) := if_neg h4
  refine ⟨σ1, gd_k (inb_nI (by omega) (by decide)) (if_F ?_ (bd2_k e1 (gd_k (inb_nI (by omega) (by decide)) ?_))), o1⟩
  · rw [nI_clamp (by omega), d1]
    exact of_eq_false (ieq_F h4 (by omega) (by decide))
  rw [nI_clamp (by omega), d1', d2', c2', l_7, pk_rem (by omega) (by decide) (by decide)]
  by_cases h1 : kd A k = 1
  · refine if_T (by rw [h1]; rfl) ?_
    by_cases h7 : aD A % 7 = 0
    · rw [ea.trans (if_pos ⟨h1, h7⟩)]
      refine if_T (by rw [h7]; rfl) (gd_k (inb_nI (by omega) (by decide)) (nm_k ?_))
      rw [nI_add]
    · rw [ea.trans (if_neg (fun q => h7 q.2))]
      exact if_F (of_eq_false (ieq_F h7 (by omega) (by decide))) rfl
  · rw [ea.trans (if_neg (fun q => h1 q.1))]
    exact if_F (of_eq_false (ieq_F h1 (by omega) (by decide))) rfl
theorem x_fi6 {N : Nat} {σ : Sg} {A : Ab} (hA : AOK A) (hC : RC 1 10 3 26 A σ) {k : Nat} (hk : k < aS A) : ∃ σ', f_X4_fine (N + 200) (nI k) σ = some (nI (fin A k), σ') ∧ O30 σ σ' := by
  obtain ⟨σ1, e1, o1⟩ := x_sum6 (N := N) hA hC hk (w := 0) (by decide)
  have hC1 := hC.o30 o1
  have ht := tsum_990 hA k 0
  obtain ⟨p1, p2, p3, p4, p5, p6⟩ := hA.2.1 k hk
  obtain ⟨⟨hS7, hD99, -⟩, -⟩ := hA
  obtain ⟨d1', d2', -⟩ := hC1.2.1 k hk
  unfold f_X4_fine
  refine ⟨σ1, bd2_k e1 (nm_k (gd_k (inb_nI (by omega) (by decide)) ?_)), o1⟩
  rw [nI_clamp (by omega), d1', l_10, nI_add]
  refine bd2_k (x_under6 (N := N + 192) (kd A k) (by omega) 2 (by decide)) ?_
  by_cases h : kd A k = 2 ∨ kd A k = 5
  · rw [show fin A k = (10 + tsum (fct A k) 0 (tw A)) / 2 from if_pos h, if_pos (show und (kd A k) 2 = true from decide_eq_true (by omega))]
    refine if_F (by decide) ?_
    rw [l_2, pk_div (by omega) (by decide) (by decide)]
  · rw [show fin A k = 10 + tsum (fct A k) 0 (tw A) from if_neg h, if_neg (show ¬ und (kd A k) 2 = true from fun q => by have := of_decide_eq_true q; omega)]
    exact if_T rfl rfl
theorem x_st6 {N : Nat} {σ : Sg} {A : Ab} (hA : AOK A) (hC : RC 1 10 3 26 A σ) {k : Nat} (hk : k < aS A) : ∃ σ', f_X4_step (N + 200) (nI k) σ = some (nI (ste A k), σ') ∧ O30 σ σ' := by
  obtain ⟨σ1, e1, o1⟩ := x_sum6 (N := N) hA hC hk (w := 1) (by decide)
  have hC1 := hC.o30 o1
  have ht := tsum_990 hA k 1
  obtain ⟨p1, p2, p3, p4, p5, p6⟩ := hA.2.1 k hk
  obtain ⟨⟨hS7, hD99, -⟩, -⟩ := hA
  obtain ⟨d1', d2', -⟩ := hC1.2.1 k hk
  unfold f_X4_step
  refine ⟨σ1, bd2_k e1 (nm_k (gd_k (inb_nI (by omega) (by decide)) ?_)), o1⟩
  rw [nI_clamp (by omega), d1', l_1, nI_add]
  by_cases h : kd A k = 5
  · rw [show ste A k = tsum (fct A k) 1 (tw A) from if_pos h]
    refine if_T (by rw [h]; rfl) ?_
    rw [pk_sub (by omega), Nat.add_sub_cancel_left]
  · rw [show ste A k = 1 + tsum (fct A k) 1 (tw A) from if_neg h]
    exact if_F (of_eq_false (ieq_F h (by omega) (by decide))) rfl
theorem i_le0 {a b : Nat} (ha : a < 2 ^ 30) (hb : b < 2 ^ 30) (h : a ≤ b) : nI a - nI b ≤ 0 := by
  rw [Int32.le_iff_toInt_le, pk_sub_toInt ha hb]
  have h0 : (0 : Int32).toInt = 0 := by decide
  omega
theorem x_pays6 {N : Nat} {σ : Sg} {A : Ab} (hA : AOK A) (hC : RC 1 10 3 26 A σ) {k : Nat} (hk : k < aS A) : ∃ σ', f_X4_pays (N + 200) (nI k) σ = some (nI (pay A k), σ') ∧ O30 σ σ' := by
  obtain ⟨σ1, e1, o1⟩ := x_al6 (N := N) hA hC hk
  have hC1 := hC.o30 o1
  obtain ⟨σ2, e2, o2⟩ := x_fi6 (N := N) hA hC1 hk
  have h1 := un_le hA hk
  have h2 := alw_le hA hk
  obtain ⟨p1, p2, p3, p4, p5, p6⟩ := hA.2.1 k hk
  have hu : iabs (nI (ii A k) - nI (oo A k)) = nI (un A k) := iabs_sub p3 p4
  unfold f_X4_pays pay
  by_cases h : un A k ≤ alw A k
  · refine ⟨σ1, bd2_k (x_unev6 hA hC hk) (bd2_k e1 (nm_k ?_)), o1⟩
    rw [hu]
    refine if_T (i_le0 (by omega) (by omega) h) ?_
    rw [Nat.sub_eq_zero_of_le h, Nat.mul_zero]
    rfl
  · refine ⟨σ2, bd2_k (x_unev6 hA hC hk) (bd2_k e1 (nm_k ?_)), o1.tr o2⟩
    rw [hu, pk_sub (by omega)]
    refine if_F (of_eq_false (ile_F (by omega : 0 < un A k - alw A k) (by omega))) (bd2_k e2 ?_)
    rw [pk_mul]
theorem x_al7 {N : Nat} {σ : Sg} {A : Ab} (hA : AOK A) (hM : RM 61 A σ) {k : Nat} (hk : k < aS A) : ∃ σ', f_X7_allowedOf (N + 200) (nI k) σ = some (nI (alw A k), σ') ∧ OL σ σ' := by
  obtain ⟨σ1, e1, o1, t0, t1, t2⟩ := x_look7 (N := N) hA hM hk
  have hM1 := hM.ol o1
  obtain ⟨p1, p2, p3, p4, p5, p6⟩ := hA.2.1 k hk
  obtain ⟨⟨hS7, hD99, -⟩, -⟩ := hA
  obtain ⟨⟨m1, m2, -⟩, mS, -⟩ := hM1
  obtain ⟨d1, d2, -⟩ := mS k hk
  unfold f_X7_allowedOf b_X7_allowedOf_59 b_X7_allowedOf_60
  refine ⟨σ1, bd_k e1 (gd_k ?_ (nm_k ?_)), o1⟩
  · rw [l_10, nI_add]
    exact inb_nI (by omega) (by decide)
  rw [l_10, l_17, nI_add, nI_add, nI_clamp (by omega), nI_clamp (by omega), d1, d2, show ar σ1 61 (5 : Int32).toNatClampNeg = nI (aD A) from m2, l_7, pk_rem (by omega) (by decide) (by decide), t2]
  by_cases h4 : kd A k = 4
  · rw [show alw A k = 9999 from if_pos h4]
    exact if_T (by rw [h4]; rfl) rfl
  have ea : alw A k = if kd A k = 1 ∧ aD A % 7 = 0 then tsum (fct A k) 2 (tw A) + vv A k else tsum (fct A k) 2 (tw A) := if_neg h4
  refine if_F (of_eq_false (ieq_F h4 (by omega) (by decide))) ?_
  by_cases h1 : kd A k = 1
  · refine if_T (by rw [h1]; rfl) (gd_k rfl ?_)
    by_cases h7 : aD A % 7 = 0
    · rw [ea.trans (if_pos ⟨h1, h7⟩)]
      refine if_T (by rw [h7]; rfl) (gd_k (inb_nI (by omega) (by decide)) ?_)
      rw [nI_add]
    · rw [ea.trans (if_neg (fun q => h7 q.2))]
      refine if_F (of_eq_false (ieq_F h7 (by omega) (by decide))) ?_
      rw [l_0, nI_add]
      rfl
  · rw [ea.trans (if_neg (fun q => h1 q.1))]
    refine if_F (of_eq_false (ieq_F h1 (by omega) (by decide))) ?_
    rw [l_0, nI_add]
    rfl
theorem x_fi7 {N : Nat} {σ : Sg} {A : Ab} (hA : AOK A) (hM : RM 61 A σ) {k : Nat} (hk : k < aS A) : ∃ σ', f_X7_fineOf (N + 200) (nI k) σ = some (nI (fin A k), σ') ∧ OL σ σ' := by
  obtain ⟨σ1, e1, o1, t0, t1, t2⟩ := x_look7 (N := N) hA hM hk
  have hM1 := hM.ol o1
  have ht := tsum_990 hA k 0
  obtain ⟨p1, p2, p3, p4, p5, p6⟩ := hA.2.1 k hk
  obtain ⟨⟨hS7, hD99, -⟩, -⟩ := hA
  obtain ⟨⟨m1, m2, -⟩, mS, -⟩ := hM1
  obtain ⟨d1, d2, -⟩ := mS k hk
  unfold f_X7_fineOf b_X7_fineOf_25
  refine ⟨σ1, bd_k e1 (gd_k ?_ (nm_k ?_)), o1⟩
  · rw [l_10, nI_add]
    exact inb_nI (by omega) (by decide)
  rw [l_10, l_2, nI_add, nI_clamp (by omega), d1, t0, nI_add, pk_div (by omega) (by decide) (by decide)]
  by_cases h2 : kd A k = 2
  · rw [show fin A k = (10 + tsum (fct A k) 0 (tw A)) / 2 from if_pos (Or.inl h2)]
    exact if_T (by rw [h2]) rfl
  refine if_F (of_eq_false (ieq_F h2 (by omega) (by decide))) ?_
  by_cases h5 : kd A k = 5
  · rw [show fin A k = (10 + tsum (fct A k) 0 (tw A)) / 2 from if_pos (Or.inr h5)]
    exact if_T (by rw [h5]; rfl) rfl
  · rw [show fin A k = 10 + tsum (fct A k) 0 (tw A) from if_neg (by omega)]
    exact if_F (of_eq_false (ieq_F h5 (by omega) (by decide))) rfl
theorem x_st7 {N : Nat} {σ : Sg} {A : Ab} (hA : AOK A) (hM : RM 61 A σ) {k : Nat} (hk : k < aS A) : ∃ σ', f_X7_stepOf (N + 200) (nI k) σ = some (nI (ste A k), σ') ∧ OL σ σ' := by
  obtain ⟨σ1, e1, o1, t0, t1, t2⟩ := x_look7 (N := N) hA hM hk
  have hM1 := hM.ol o1
  have ht := tsum_990 hA k 1
  obtain ⟨p1, p2, p3, p4, p5, p6⟩ := hA.2.1 k hk
  obtain ⟨⟨hS7, hD99, -⟩, -⟩ := hA
  obtain ⟨⟨m1, m2, -⟩, mS, -⟩ := hM1
  obtain ⟨d1, d2, -⟩ := mS k hk
  unfold f_X7_stepOf
  refine ⟨σ1, bd_k e1 (gd_k ?_ ?_), o1⟩
  · rw [l_10, nI_add]
    exact inb_nI (by omega) (by decide)
  rw [l_10, l_1, nI_add, nI_clamp (by omega), d1, t1, nI_add]
  by_cases h5 : kd A k = 5
  · rw [show ste A k = tsum (fct A k) 1 (tw A) from if_pos h5]
    refine if_T (by rw [h5]; rfl) ?_
    rw [pk_sub (by omega), Nat.add_sub_cancel_left]
  · rw [show ste A k = 1 + tsum (fct A k) 1 (tw A) from if_neg h5]
    refine if_F (of_eq_false (ieq_F h5 (by omega) (by decide))) ?_
    rw [l_0, pk_sub (by omega)]
    rfl
theorem x_pays7 {N : Nat} {σ : Sg} {A : Ab} (hA : AOK A) (hM : RM 61 A σ) {k : Nat} (hk : k < aS A) : ∃ σ', f_X7_paysOf (N + 200) (nI k) σ = some (nI (pay A k), σ') ∧ OL σ σ' := by
  obtain ⟨σ1, e1, o1⟩ := x_al7 (N := N) hA hM hk
  have hM1 := hM.ol o1
  obtain ⟨σ2, e2, o2⟩ := x_fi7 (N := N) hA hM1 hk
  have h1 := un_le hA hk
  have h2 := alw_le hA hk
  obtain ⟨p1, p2, p3, p4, p5, p6⟩ := hA.2.1 k hk
  have hu : ∀ σ, f_X7_size (N + 200) (nI (ii A k) - nI (oo A k)) σ = some (nI (un A k), σ) := fun σ => x_size7 p3 p4
  unfold f_X7_paysOf pay
  by_cases h : un A k ≤ alw A k
  · refine ⟨σ1, bd2_k (x_uneven7 hA hM hk) (bd2_k (hu _) (bd2_k e1 (nm_k ?_))), o1⟩
    refine if_T (i_le0 (by omega) (by omega) h) ?_
    rw [Nat.sub_eq_zero_of_le h, Nat.mul_zero]
    rfl
  · refine ⟨σ2, bd2_k (x_uneven7 hA hM hk) (bd2_k (hu _) (bd2_k e1 (nm_k ?_))), o1.tr o2⟩
    rw [pk_sub (by omega)]
    refine if_F (of_eq_false (ile_F (by omega : 0 < un A k - alw A k) (by omega))) (bd2_k e2 ?_)
    rw [pk_mul]

def ofv (A : Ab) (k : Nat) : Nat → Int32
  | 0 => nI (kd A k)
  | 1 => nI (vv A k)
  | 2 => nI (ii A k)
  | 3 => nI (oo A k)
  | 4 => nI (ii A k) - nI (oo A k)
  | 5 => nI (alw A k)
  | 6 => nI (fin A k)
  | 7 => nI (ste A k)
  | 8 => nI (pay A k)
  | 9 => nI (ld A k)
  | 10 => nI (opS A k)
  | _ => -1000001
theorem x_of6 {N : Nat} {σ : Sg} {A : Ab} (hA : AOK A) (hC : RC 1 10 3 26 A σ) {k : Nat} (hk : k < aS A) : ∀ n, n ≤ 10 → Ev (f_X6_of (N + 200) (nI k) (nI n) σ) (ofv A k n) σ := by
  have hS7 := hA.1.1
  obtain ⟨d1, d2, d3, d4, d5⟩ := hC.2.1 k hk
  have hh := @x_has_T (N + 200) σ (aS A) k hC.1.1 hS7 hk
  intro n hn
  unfold f_X6_of
  match n, hn with
  | 0, _ => exact ⟨σ, bd2_k hh (if_F n10 (if_T rfl (gd_k (inb_nI (by omega) (by decide)) (by rw [nI_clamp (by omega), d1]; rfl)))), Sm.rf σ⟩
  | 1, _ => exact ⟨σ, bd2_k hh (if_F n10 (if_F (by decide) (if_T rfl (gd_k (inb_nI (by omega) (by decide)) (by rw [nI_clamp (by omega), d2]; rfl))))), Sm.rf σ⟩
  | 2, _ => exact ⟨σ, bd2_k hh (if_F n10 (if_F (by decide) (if_F (by decide) (if_T rfl (gd_k (inb_nI (by omega) (by decide)) (by rw [nI_clamp (by omega), d3]; rfl)))))), Sm.rf σ⟩
  | 3, _ => exact ⟨σ, bd2_k hh (if_F n10 (if_F (by decide) (if_F (by decide) (if_F (by decide) (if_T rfl (gd_k (inb_nI (by omega) (by decide)) (by rw [nI_clamp (by omega), d4]; rfl))))))), Sm.rf σ⟩
  | 4, _ => exact ⟨σ, bd2_k hh (if_F n10 (if_F (by decide) (if_F (by decide) (if_F (by decide) (if_F (by decide) (if_T rfl (bd2_k (x_unev6 hA hC hk) rfl))))))), Sm.rf σ⟩
  | 5, _ =>
    obtain ⟨σ1, e, o⟩ := x_al6 (N := N) hA hC hk
    exact ⟨σ1, bd2_k hh (if_F n10 (if_F (by decide) (if_F (by decide) (if_F (by decide) (if_F (by decide) (if_F (by decide) (if_T rfl (bd2_k e rfl)))))))), o.sm⟩
  | 6, _ =>
    obtain ⟨σ1, e, o⟩ := x_fi6 (N := N) hA hC hk
    exact ⟨σ1, bd2_k hh (if_F n10 (if_F (by decide) (if_F (by decide) (if_F (by decide) (if_F (by decide) (if_F (by decide) (if_F (by decide) (if_T rfl (bd2_k e rfl))))))))), o.sm⟩
  | 7, _ =>
    obtain ⟨σ1, e, o⟩ := x_st6 (N := N) hA hC hk
    exact ⟨σ1, bd2_k hh (if_F n10 (if_F (by decide) (if_F (by decide) (if_F (by decide) (if_F (by decide) (if_F (by decide) (if_F (by decide) (if_F (by decide) (if_T rfl (bd2_k e rfl)))))))))), o.sm⟩
  | 8, _ =>
    obtain ⟨σ1, e, o⟩ := x_pays6 (N := N) hA hC hk
    exact ⟨σ1, bd2_k hh (if_F n10 (if_F (by decide) (if_F (by decide) (if_F (by decide) (if_F (by decide) (if_F (by decide) (if_F (by decide) (if_F (by decide) (if_F (by decide) (if_T rfl (bd2_k e rfl))))))))))), o.sm⟩
  | 9, _ => exact ⟨σ, bd2_k hh (if_F n10 (if_F (by decide) (if_F (by decide) (if_F (by decide) (if_F (by decide) (if_F (by decide) (if_F (by decide) (if_F (by decide) (if_F (by decide) (if_F (by decide) (if_T rfl (gd_k (inb_nI (by omega) (by decide)) (by rw [nI_clamp (by omega), d5]; rfl))))))))))))), Sm.rf σ⟩
  | 10, _ => exact ⟨σ, bd2_k hh (if_F n10 (if_F (by decide) (if_F (by decide) (if_F (by decide) (if_F (by decide) (if_F (by decide) (if_F (by decide) (if_F (by decide) (if_F (by decide) (if_F (by decide) (if_F (by decide) (if_T rfl (bd2_k (x_from6 (N := N + 192) hA hC hk) rfl))))))))))))), Sm.rf σ⟩
  | n + 11, h => exact absurd h (by omega)
theorem x_of7 {N : Nat} {σ : Sg} {A : Ab} (hA : AOK A) (hM : RM 61 A σ) {k : Nat} (hk : k < aS A) : ∀ n, n ≤ 10 → Ev (f_X7_of (N + 200) (nI k) (nI n) σ) (ofv A k n) σ := by
  have hS7 := hA.1.1
  obtain ⟨d1, d2, d3, d4, d5⟩ := hM.2.1 k hk
  have hh := @x_isS_T (N + 200) σ (aS A) k hM.1.1 hS7 hk
  intro n hn
  unfold f_X7_of
  match n, hn with
  | 0, _ => exact ⟨σ, bd2_k hh (if_F n10 (if_T rfl (by rw [l_10, nI_add]; exact gd_k (inb_nI (by omega) (by decide)) (by rw [nI_clamp (by omega), d1]; rfl)))), Sm.rf σ⟩
  | 1, _ => exact ⟨σ, bd2_k hh (if_F n10 (if_F (by decide) (if_T rfl (by rw [l_17, nI_add]; exact gd_k (inb_nI (by omega) (by decide)) (by rw [nI_clamp (by omega), d2]; rfl))))), Sm.rf σ⟩
  | 2, _ => exact ⟨σ, bd2_k hh (if_F n10 (if_F (by decide) (if_F (by decide) (if_T rfl (by rw [l_24, nI_add]; exact gd_k (inb_nI (by omega) (by decide)) (by rw [nI_clamp (by omega), d3]; rfl)))))), Sm.rf σ⟩
  | 3, _ => exact ⟨σ, bd2_k hh (if_F n10 (if_F (by decide) (if_F (by decide) (if_F (by decide) (if_T rfl (by rw [l_31, nI_add]; exact gd_k (inb_nI (by omega) (by decide)) (by rw [nI_clamp (by omega), d4]; rfl))))))), Sm.rf σ⟩
  | 4, _ => exact ⟨σ, bd2_k hh (if_F n10 (if_F (by decide) (if_F (by decide) (if_F (by decide) (if_F (by decide) (if_T rfl (bd2_k (x_uneven7 hA hM hk) rfl))))))), Sm.rf σ⟩
  | 5, _ =>
    obtain ⟨σ1, e, o⟩ := x_al7 (N := N) hA hM hk
    exact ⟨σ1, bd2_k hh (if_F n10 (if_F (by decide) (if_F (by decide) (if_F (by decide) (if_F (by decide) (if_F (by decide) (if_T rfl (bd2_k e rfl)))))))), o.sm⟩
  | 6, _ =>
    obtain ⟨σ1, e, o⟩ := x_fi7 (N := N) hA hM hk
    exact ⟨σ1, bd2_k hh (if_F n10 (if_F (by decide) (if_F (by decide) (if_F (by decide) (if_F (by decide) (if_F (by decide) (if_F (by decide) (if_T rfl (bd2_k e rfl))))))))), o.sm⟩
  | 7, _ =>
    obtain ⟨σ1, e, o⟩ := x_st7 (N := N) hA hM hk
    exact ⟨σ1, bd2_k hh (if_F n10 (if_F (by decide) (if_F (by decide) (if_F (by decide) (if_F (by decide) (if_F (by decide) (if_F (by decide) (if_F (by decide) (if_T rfl (bd2_k e rfl)))))))))), o.sm⟩
  | 8, _ =>
    obtain ⟨σ1, e, o⟩ := x_pays7 (N := N) hA hM hk
    exact ⟨σ1, bd2_k hh (if_F n10 (if_F (by decide) (if_F (by decide) (if_F (by decide) (if_F (by decide) (if_F (by decide) (if_F (by decide) (if_F (by decide) (if_F (by decide) (if_T rfl (bd2_k e rfl))))))))))), o.sm⟩
  | 9, _ => exact ⟨σ, bd2_k hh (if_F n10 (if_F (by decide) (if_F (by decide) (if_F (by decide) (if_F (by decide) (if_F (by decide) (if_F (by decide) (if_F (by decide) (if_F (by decide) (if_F (by decide) (if_T rfl (bd2_k (x_leads7 (N := N + 192) hA hM hk) rfl)))))))))))), Sm.rf σ⟩
  | 10, _ => exact ⟨σ, bd2_k hh (if_F n10 (if_F (by decide) (if_F (by decide) (if_F (by decide) (if_F (by decide) (if_F (by decide) (if_F (by decide) (if_F (by decide) (if_F (by decide) (if_F (by decide) (if_F (by decide) (if_T rfl (bd2_k (x_from7 (N := N + 192) hA hM hk) rfl))))))))))))), Sm.rf σ⟩
  | n + 11, h => exact absurd h (by omega)
theorem op_of {N : Nat} {σ : Sg} {A : Ab} (hI : Inv A σ) (x y : Int32) : Ok2 (f_X6_of (N + 200) x y) (f_X7_of (N + 200) x y) σ := by
  obtain ⟨⟨hS7, hD99, hT100, hW5, hZ7⟩, hAS, hAT, hAZ, hAW, hAW0⟩ := id hI.1
  obtain ⟨-, hC, hM, hK, r, hr, r1, r2, r3⟩ := id hI
  obtain ⟨⟨c1, c2, c3, c4, c5⟩, cS, cT, cZ, cW⟩ := id hC
  obtain ⟨⟨m1, m2, m3, m4, m5, m6⟩, mS, mT, mZ, mW⟩ := id hM
  rcases i_cases x with h | ⟨k, ha, rfl⟩
  · unfold f_X6_of f_X7_of
    exact ⟨-1000001, σ, σ, A, bd2_k (x_has_lo h) (if_T n00 rfl), bd2_k (x_isS_lo h) (if_T n00 rfl), hI⟩
  by_cases haS : aS A ≤ k
  · unfold f_X6_of f_X7_of
    exact ⟨-1000001, σ, σ, A, bd2_k (x_has_F c1 hS7 haS ha) (if_T n00 rfl), bd2_k (x_isS_F m1 hS7 haS ha) (if_T n00 rfl), hI⟩
  have haS' : k < aS A := by omega
  rcases i_cases y with h | ⟨n, hn, rfl⟩
  · unfold f_X6_of f_X7_of
    have q : ∀ c : Nat, c < 2 ^ 31 → ¬ y = nI c := fun c hc => (i_loT h hc).2.2.2.2.1
    exact ⟨-1000001, σ, σ, A, bd2_k (x_has_T c1 hS7 haS') (if_F n10 (if_F (q 0 (by decide)) (if_F (q 1 (by decide)) (if_F (q 2 (by decide)) (if_F (q 3 (by decide)) (if_F (q 4 (by decide)) (if_F (q 5 (by decide)) (if_F (q 6 (by decide)) (if_F (q 7 (by decide)) (if_F (q 8 (by decide)) (if_F (q 9 (by decide)) (if_F (q 10 (by decide)) (rfl))))))))))))), bd2_k (x_isS_T m1 hS7 haS') (if_F n10 (if_F (q 0 (by decide)) (if_F (q 1 (by decide)) (if_F (q 2 (by decide)) (if_F (q 3 (by decide)) (if_F (q 4 (by decide)) (if_F (q 5 (by decide)) (if_F (q 6 (by decide)) (if_F (q 7 (by decide)) (if_F (q 8 (by decide)) (if_F (q 9 (by decide)) (if_F (q 10 (by decide)) (rfl))))))))))))), hI⟩
  by_cases hn10 : n ≤ 10
  · exact Ok2.q hI (x_of6 hI.1 hC haS' n hn10) (fun σ' hI' => x_of7 hI'.1 hI'.2.2.1 haS' n hn10)
  · unfold f_X6_of f_X7_of
    have q : ∀ c : Nat, c ≤ 10 → ¬ nI n = nI c := fun c hc => of_eq_false (ieq_F (by omega) hn (by omega))
    exact ⟨-1000001, σ, σ, A, bd2_k (x_has_T c1 hS7 haS') (if_F n10 (if_F (q 0 (by decide)) (if_F (q 1 (by decide)) (if_F (q 2 (by decide)) (if_F (q 3 (by decide)) (if_F (q 4 (by decide)) (if_F (q 5 (by decide)) (if_F (q 6 (by decide)) (if_F (q 7 (by decide)) (if_F (q 8 (by decide)) (if_F (q 9 (by decide)) (if_F (q 10 (by decide)) (rfl))))))))))))), bd2_k (x_isS_T m1 hS7 haS') (if_F n10 (if_F (q 0 (by decide)) (if_F (q 1 (by decide)) (if_F (q 2 (by decide)) (if_F (q 3 (by decide)) (if_F (q 4 (by decide)) (if_F (q 5 (by decide)) (if_F (q 6 (by decide)) (if_F (q 7 (by decide)) (if_F (q 8 (by decide)) (if_F (q 9 (by decide)) (if_F (q 10 (by decide)) (rfl))))))))))))), hI⟩
/-! told -/
def paB (A : Ab) (k : Nat) : Bool := decide (0 < pay A k)
def paS (A : Ab) : Nat := setB (paB A) (aS A)
def psum (A : Ab) : Nat → Nat
  | 0 => 0
  | n + 1 => psum A n + pay A n
def usum (A : Ab) : Nat → Int32
  | 0 => nI 0
  | n + 1 => usum A n + (nI (ii A n) - nI (oo A n))
theorem x_pay6l {N : Nat} {A : Ab} (hA : AOK A) : ∀ m n j σ, j + m = aS A → RC 1 10 3 26 A σ → ∃ σ', b_X4_paying_4 (N + 200) (n + m + 1) (nI (setB (paB A) j)) (nI j) σ = some (nI (paS A), σ') ∧ O30 σ σ'
  | 0, n, j, σ, hj, hC => by
    have hS7 := hA.1.1
    refine ⟨σ, ?_, O30.rf σ⟩
    show b_X4_paying_4b (N + 200) (b_X4_paying_4 (N + 200) n) _ _ _ = _
    unfold b_X4_paying_4b
    rw [hC.1.1]
    have e : j = aS A := by omega
    subst e
    exact if_T (of_eq_true (ile_T (Nat.le_refl _) (by omega))) rfl
  | m + 1, n, j, σ, hj, hC => by
    have hS7 := hA.1.1
    obtain ⟨σ1, e1, o1⟩ := x_pays6 (N := N) hA hC (show j < aS A by omega)
    have hp := pay_lt hA (show j < aS A by omega)
    obtain ⟨σ2, e2, o2⟩ := x_pay6l (N := N) hA m n (j + 1) σ1 (by omega) (hC.o30 o1)
    have hs : setB (paB A) j < 128 := p2_le (by omega : j ≤ 7) (setB_lt _ j)
    refine ⟨σ2, ?_, o1.tr o2⟩
    show b_X4_paying_4b (N + 200) (b_X4_paying_4 (N + 200) (n + m + 1)) _ _ _ = _
    unfold b_X4_paying_4b b_X4_paying_26
    rw [hC.1.1]
    refine if_F (of_eq_false (ile_F (by omega) (by omega))) (bd2_k e1 ?_)
    have e : setB (paB A) (j + 1) = if paB A j = true then setB (paB A) j ||| 2 ^ j else setB (paB A) j := rfl
    rw [e] at e2
    by_cases h0 : 0 < pay A j
    · rw [if_pos (show paB A j = true from decide_eq_true h0)] at e2
      refine if_F (of_eq_false (ile_F h0 hp)) (nm_k (nm_k ?_))
      rw [l_1, l_31, bit_2 _ hs j (by omega), nI_add]
      exact e2
    · rw [if_neg (show ¬ paB A j = true from fun q => h0 (of_decide_eq_true q))] at e2
      refine if_T (of_eq_true (ile_T (by omega) (by decide))) (nm_k ?_)
      rw [l_1, nI_add]
      exact e2
theorem x_paying6 {N : Nat} {σ : Sg} {A : Ab} (hA : AOK A) (hC : RC 1 10 3 26 A σ) : ∃ σ', f_X4_paying (N + 200) σ = some (nI (paS A), σ') ∧ O30 σ σ' := by
  have hS7 := hA.1.1
  have k := x_pay6l (N := N) hA (aS A) (N + 199 - aS A) 0 σ (by omega) hC
  rw [show N + 199 - aS A + aS A + 1 = N + 200 by omega] at k
  exact k
theorem x_pay7l {N : Nat} {A : Ab} (hA : AOK A) : ∀ m n j σ, j + m = aS A → RM 61 A σ → ∃ σ', b_X7_paying_4 (N + 200) (n + m + 1) (nI (setB (paB A) j)) (nI j) σ = some (nI (paS A), σ') ∧ OL σ σ'
  | 0, n, j, σ, hj, hM => by
    have hS7 := hA.1.1
    have m1 : ar σ 61 (0 : Int32).toNatClampNeg = nI (aS A) := hM.1.1
    refine ⟨σ, ?_, OL.rf σ⟩
    show b_X7_paying_4b (N + 200) (b_X7_paying_4 (N + 200) n) _ _ _ = _
    unfold b_X7_paying_4b
    rw [m1]
    have e : j = aS A := by omega
    subst e
    exact gd_k rfl (if_T (of_eq_true (ile_T (Nat.le_refl _) (by omega))) rfl)
  | m + 1, n, j, σ, hj, hM => by
    have hS7 := hA.1.1
    have m1 : ar σ 61 (0 : Int32).toNatClampNeg = nI (aS A) := hM.1.1
    obtain ⟨σ1, e1, o1⟩ := x_pays7 (N := N) hA hM (show j < aS A by omega)
    have hp := pay_lt hA (show j < aS A by omega)
    obtain ⟨σ2, e2, o2⟩ := x_pay7l (N := N) hA m n (j + 1) σ1 (by omega) (hM.ol o1)
    have hs : setB (paB A) j < 128 := p2_le (by omega : j ≤ 7) (setB_lt _ j)
    refine ⟨σ2, ?_, o1.tr o2⟩
    show b_X7_paying_4b (N + 200) (b_X7_paying_4 (N + 200) (n + m + 1)) _ _ _ = _
    unfold b_X7_paying_4b b_X7_paying_30
    rw [m1]
    refine gd_k rfl (if_F (of_eq_false (ile_F (by omega) (by omega))) (bd2_k e1 ?_))
    have e : setB (paB A) (j + 1) = if paB A j = true then setB (paB A) j ||| 2 ^ j else setB (paB A) j := rfl
    rw [e] at e2
    by_cases h0 : 0 < pay A j
    · rw [if_pos (show paB A j = true from decide_eq_true h0)] at e2
      refine if_F (of_eq_false (ile_F h0 hp)) (nm_k (nm_k ?_))
      rw [l_1, l_31, bit_2 _ hs j (by omega), nI_add]
      exact e2
    · rw [if_neg (show ¬ paB A j = true from fun q => h0 (of_decide_eq_true q))] at e2
      refine if_T (of_eq_true (ile_T (by omega) (by decide))) (nm_k (nm_k ?_))
      rw [l_0, l_1, bit_6 _ hs, nI_add]
      exact e2
theorem x_paying7 {N : Nat} {σ : Sg} {A : Ab} (hA : AOK A) (hM : RM 61 A σ) : ∃ σ', f_X7_paying (N + 200) σ = some (nI (paS A), σ') ∧ OL σ σ' := by
  have hS7 := hA.1.1
  have k := x_pay7l (N := N) hA (aS A) (N + 199 - aS A) 0 σ (by omega) hM
  rw [show N + 199 - aS A + aS A + 1 = N + 200 by omega] at k
  exact k
theorem x_psum6l {N : Nat} {A : Ab} (hA : AOK A) : ∀ m n j σ, j + m = aS A → RC 1 10 3 26 A σ → ∃ σ', b_X4_paysOfAll_4 (N + 200) (n + m + 1) (nI (psum A j)) (nI j) σ = some (nI (psum A (aS A)), σ') ∧ O30 σ σ'
  | 0, n, j, σ, hj, hC => by
    have hS7 := hA.1.1
    refine ⟨σ, ?_, O30.rf σ⟩
    show b_X4_paysOfAll_4b (N + 200) (b_X4_paysOfAll_4 (N + 200) n) _ _ _ = _
    unfold b_X4_paysOfAll_4b
    rw [hC.1.1]
    have e : j = aS A := by omega
    subst e
    exact if_T (of_eq_true (ile_T (Nat.le_refl _) (by omega))) rfl
  | m + 1, n, j, σ, hj, hC => by
    have hS7 := hA.1.1
    obtain ⟨σ1, e1, o1⟩ := x_pays6 (N := N) hA hC (show j < aS A by omega)
    obtain ⟨σ2, e2, o2⟩ := x_psum6l (N := N) hA m n (j + 1) σ1 (by omega) (hC.o30 o1)
    refine ⟨σ2, ?_, o1.tr o2⟩
    show b_X4_paysOfAll_4b (N + 200) (b_X4_paysOfAll_4 (N + 200) (n + m + 1)) _ _ _ = _
    unfold b_X4_paysOfAll_4b
    rw [hC.1.1]
    refine if_F (of_eq_false (ile_F (by omega) (by omega))) (bd2_k e1 (nm_k (nm_k ?_)))
    rw [l_1, nI_add, nI_add]
    exact e2
theorem x_usum6l {N : Nat} {A : Ab} (hA : AOK A) {σ : Sg} (hC : RC 1 10 3 26 A σ) : ∀ m n j, j + m = aS A → b_X4_unevenOfAll_4 N (n + m + 1) (usum A j) (nI j) σ = some (usum A (aS A), σ)
  | 0, n, j, hj => by
    have hS7 := hA.1.1
    show b_X4_unevenOfAll_4b N (b_X4_unevenOfAll_4 N n) _ _ _ = _
    unfold b_X4_unevenOfAll_4b
    rw [hC.1.1]
    have e : j = aS A := by omega
    subst e
    exact if_T (of_eq_true (ile_T (Nat.le_refl _) (by omega))) rfl
  | m + 1, n, j, hj => by
    have hS7 := hA.1.1
    have ih := x_usum6l (N := N) hA hC m n (j + 1) (by omega)
    show b_X4_unevenOfAll_4b N (b_X4_unevenOfAll_4 N (n + m + 1)) _ _ _ = _
    unfold b_X4_unevenOfAll_4b
    rw [hC.1.1]
    refine if_F (of_eq_false (ile_F (by omega) (by omega))) (bd2_k (x_unev6 hA hC (by omega)) (nm_k (nm_k ?_)))
    rw [l_1, nI_add]
    exact ih
theorem x_told71l {N : Nat} {A : Ab} (hA : AOK A) : ∀ m n j σ, j + m = aS A → RM 61 A σ → ∃ σ', b_X7_told_44 (N + 200) (n + m + 1) (nI 1) (nI (psum A j)) (nI j) σ = some (nI (psum A (aS A)), σ') ∧ OL σ σ'
  | 0, n, j, σ, hj, hM => by
    have hS7 := hA.1.1
    have m1 : ar σ 61 (0 : Int32).toNatClampNeg = nI (aS A) := hM.1.1
    refine ⟨σ, ?_, OL.rf σ⟩
    show b_X7_told_44b (N + 200) (b_X7_told_44 (N + 200) n) _ _ _ _ = _
    unfold b_X7_told_44b
    rw [m1]
    have e : j = aS A := by omega
    subst e
    exact gd_k rfl (if_T (of_eq_true (ile_T (Nat.le_refl _) (by omega))) rfl)
  | m + 1, n, j, σ, hj, hM => by
    have hS7 := hA.1.1
    have m1 : ar σ 61 (0 : Int32).toNatClampNeg = nI (aS A) := hM.1.1
    obtain ⟨σ1, e1, o1⟩ := x_pays7 (N := N) hA hM (show j < aS A by omega)
    obtain ⟨σ2, e2, o2⟩ := x_told71l (N := N) hA m n (j + 1) σ1 (by omega) (hM.ol o1)
    refine ⟨σ2, ?_, o1.tr o2⟩
    show b_X7_told_44b (N + 200) (b_X7_told_44 (N + 200) (n + m + 1)) _ _ _ _ = _
    unfold b_X7_told_44b b_X7_told_73
    rw [m1]
    refine gd_k rfl (if_F (of_eq_false (ile_F (by omega) (by omega))) (if_T rfl (bd2_k e1 (nm_k (nm_k ?_)))))
    rw [l_1, nI_add, nI_add]
    exact e2
theorem x_told72l {N : Nat} {A : Ab} (hA : AOK A) {σ : Sg} (hM : RM 61 A σ) : ∀ m n j, j + m = aS A → b_X7_told_44 N (n + m + 1) (nI 2) (usum A j) (nI j) σ = some (usum A (aS A), σ)
  | 0, n, j, hj => by
    have hS7 := hA.1.1
    have m1 : ar σ 61 (0 : Int32).toNatClampNeg = nI (aS A) := hM.1.1
    show b_X7_told_44b N (b_X7_told_44 N n) _ _ _ _ = _
    unfold b_X7_told_44b
    rw [m1]
    have e : j = aS A := by omega
    subst e
    exact gd_k rfl (if_T (of_eq_true (ile_T (Nat.le_refl _) (by omega))) rfl)
  | m + 1, n, j, hj => by
    have hS7 := hA.1.1
    have m1 : ar σ 61 (0 : Int32).toNatClampNeg = nI (aS A) := hM.1.1
    have ih := x_told72l (N := N) hA hM m n (j + 1) (by omega)
    show b_X7_told_44b N (b_X7_told_44 N (n + m + 1)) _ _ _ _ = _
    unfold b_X7_told_44b b_X7_told_73
    rw [m1]
    refine gd_k rfl (if_F (of_eq_false (ile_F (by omega) (by omega))) (if_F (by decide) (bd2_k (x_uneven7 hA hM (by omega)) (nm_k (nm_k ?_)))))
    rw [l_1, nI_add]
    exact ih
def tov (A : Ab) : Nat → Int32
  | 0 => nI (aD A)
  | 1 => nI (psum A (aS A))
  | 2 => usum A (aS A)
  | 3 => nI (paS A)
  | _ => -1000001
theorem x_told6 {N : Nat} {σ : Sg} {A : Ab} (hA : AOK A) (hC : RC 1 10 3 26 A σ) : ∀ n, n ≤ 3 → Ev (f_X6_told (N + 200) (nI n) σ) (tov A n) σ := by
  have hS7 := hA.1.1
  intro n hn
  unfold f_X6_told
  match n, hn with
  | 0, _ => exact ⟨σ, if_T rfl (by rw [hC.1.2.1]; rfl), Sm.rf σ⟩
  | 1, _ =>
    obtain ⟨σ1, e, o⟩ := x_psum6l (N := N) hA (aS A) (N + 199 - aS A) 0 σ (by omega) hC
    rw [show N + 199 - aS A + aS A + 1 = N + 200 by omega] at e
    exact ⟨σ1, if_F (by decide) (if_T rfl (bd2_k e rfl)), o.sm⟩
  | 2, _ =>
    have e := x_usum6l (N := N + 200) hA hC (aS A) (N + 199 - aS A) 0 (by omega)
    rw [show N + 199 - aS A + aS A + 1 = N + 200 by omega] at e
    exact ⟨σ, if_F (by decide) (if_F (by decide) (if_T rfl (bd2_k e rfl))), Sm.rf σ⟩
  | 3, _ =>
    obtain ⟨σ1, e, o⟩ := x_paying6 (N := N) hA hC
    exact ⟨σ1, if_F (by decide) (if_F (by decide) (if_F (by decide) (if_T rfl (bd2_k e rfl)))), o.sm⟩
  | n + 4, h => exact absurd h (by omega)
theorem x_told7 {N : Nat} {σ : Sg} {A : Ab} (hA : AOK A) (hM : RM 61 A σ) : ∀ n, n ≤ 3 → Ev (f_X7_told (N + 200) (nI n) σ) (tov A n) σ := by
  have hS7 := hA.1.1
  intro n hn
  unfold f_X7_told b_X7_told_9 b_X7_told_40
  match n, hn with
  | 0, _ => exact ⟨σ, if_T rfl (if_T rfl (gd_k rfl (by rw [show ar σ 61 (5 : Int32).toNatClampNeg = nI (aD A) from hM.1.2.1]; rfl))), Sm.rf σ⟩
  | 1, _ =>
    obtain ⟨σ1, e, o⟩ := x_told71l (N := N) hA (aS A) (N + 199 - aS A) 0 σ (by omega) hM
    rw [show N + 199 - aS A + aS A + 1 = N + 200 by omega] at e
    exact ⟨σ1, if_F (by decide) (if_F (by decide) (if_T rfl e)), o.sm⟩
  | 2, _ =>
    have e := x_told72l (N := N + 200) hA hM (aS A) (N + 199 - aS A) 0 (by omega)
    rw [show N + 199 - aS A + aS A + 1 = N + 200 by omega] at e
    exact ⟨σ, if_F (by decide) (if_F (by decide) (if_F (by decide) (if_T rfl e))), Sm.rf σ⟩
  | 3, _ =>
    obtain ⟨σ1, e, o⟩ := x_paying7 (N := N) hA hM
    exact ⟨σ1, if_F (by decide) (if_T rfl (if_F (by decide) (bd2_k e rfl))), o.sm⟩
  | n + 4, h => exact absurd h (by omega)
theorem op_told {N : Nat} {σ : Sg} {A : Ab} (hI : Inv A σ) (x : Int32) : Ok2 (f_X6_told (N + 200) x) (f_X7_told (N + 200) x) σ := by
  obtain ⟨-, hC, hM, hK, r, hr, r1, r2, r3⟩ := id hI
  rcases i_cases x with h | ⟨n, hn, rfl⟩
  · unfold f_X6_told f_X7_told
    have q : ∀ c : Nat, c < 2 ^ 31 → ¬ x = nI c := fun c hc => (i_loT h hc).2.2.2.2.1
    exact ⟨-1000001, σ, σ, A, if_F (q 0 (by decide)) (if_F (q 1 (by decide)) (if_F (q 2 (by decide)) (if_F (q 3 (by decide)) rfl))), if_F (q 0 (by decide)) (if_F (q 3 (by decide)) (if_F (q 1 (by decide)) (if_F (q 2 (by decide)) rfl))), hI⟩
  by_cases hn3 : n ≤ 3
  · exact Ok2.q hI (x_told6 hI.1 hC n hn3) (fun σ' hI' => x_told7 hI'.1 hI'.2.2.1 n hn3)
  · unfold f_X6_told f_X7_told
    have q : ∀ c : Nat, c ≤ 3 → ¬ nI n = nI c := fun c hc => of_eq_false (ieq_F (by omega) hn (by omega))
    exact ⟨-1000001, σ, σ, A, if_F (q 0 (by decide)) (if_F (q 1 (by decide)) (if_F (q 2 (by decide)) (if_F (q 3 (by decide)) rfl))), if_F (q 0 (by decide)) (if_F (q 3 (by decide)) (if_F (q 1 (by decide)) (if_F (q 2 (by decide)) rfl))), hI⟩
