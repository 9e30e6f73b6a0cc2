/-! goings -/
theorem x_both_T {N : Nat} {σ : Sg} {S a b : Nat} (hS : rg σ 1 0 = nI S) (h7 : S ≤ 7) (ha : a < S) (hb : b < S) : f_X4_hasBoth N (nI a) (nI b) σ = some (nI 1, σ) := by
  unfold f_X4_hasBoth
  exact bd2_k (x_has_T hS h7 ha) (if_F n10 (bd2_k (x_has_T hS h7 hb) (if_F n10 rfl)))
theorem x_both_F1 {N : Nat} {σ : Sg} {x y : Int32} (h : f_X4_has N x σ = some (nI 0, σ)) : f_X4_hasBoth N x y σ = some (nI 0, σ) := by
  unfold f_X4_hasBoth
  exact bd2_k h (if_T n00 rfl)
theorem x_both_F2 {N : Nat} {σ : Sg} {x y : Int32} (g : f_X4_has N x σ = some (nI 1, σ)) (h : f_X4_has N y σ = some (nI 0, σ)) : f_X4_hasBoth N x y σ = some (nI 0, σ) := by
  unfold f_X4_hasBoth
  exact bd2_k g (if_F n10 (bd2_k h (if_T n00 rfl)))
theorem op_go {N : Nat} {σ : Sg} {A : Ab} (hI : Inv A σ) (x y z : Int32) : Ok2 (f_X6_go (N + 8) x y z) (f_X7_go (N + 8) x y z) σ := by
  obtain ⟨⟨hS7, hD99, hT100, hW5, hZ7⟩, hAS, hAT, hAZ, hAW, hAW0⟩ := id hI.1
  obtain ⟨-, hC, hM, hK, r, hr, r1, r2, r3⟩ := id hI
  obtain ⟨⟨c1, c2, c3, c4, c5⟩, cS, cT, cZ, cW⟩ := id hC
  obtain ⟨⟨m1, m2, m3, m4, m5, m6⟩, mS, mT, mZ, mW⟩ := id hM
  unfold f_X6_go f_X7_go
  rcases i_cases x with h | ⟨a, ha, rfl⟩
  · exact ⟨-1000001, σ, σ, A, bd2_k (x_both_F1 (x_has_lo h)) (if_T n00 rfl), bd2_k (x_isS_lo h) (if_T n00 rfl), hI⟩
  by_cases haS : aS A ≤ a
  · exact ⟨-1000001, σ, σ, A, bd2_k (x_both_F1 (x_has_F c1 hS7 haS ha)) (if_T n00 rfl), bd2_k (x_isS_F m1 hS7 haS ha) (if_T n00 rfl), hI⟩
  have haS' : a < aS A := by omega
  rcases i_cases y with h | ⟨b, hb, rfl⟩
  · exact ⟨-1000001, σ, σ, A, bd2_k (x_both_F2 (x_has_T c1 hS7 haS') (x_has_lo h)) (if_T n00 rfl), bd2_k (x_isS_T m1 hS7 haS') (if_F n10 (bd2_k (x_isS_lo h) (if_T n00 rfl))), hI⟩
  by_cases hbS : aS A ≤ b
  · exact ⟨-1000001, σ, σ, A, bd2_k (x_both_F2 (x_has_T c1 hS7 haS') (x_has_F c1 hS7 hbS hb)) (if_T n00 rfl), bd2_k (x_isS_T m1 hS7 haS') (if_F n10 (bd2_k (x_isS_F m1 hS7 hbS hb) (if_T n00 rfl))), hI⟩
  have hbS' : b < aS A := by omega
  rcases i_cases z with h | ⟨n, hn, rfl⟩
  · exact ⟨-1000002, σ, σ, A, bd2_k (x_both_T c1 hS7 haS' hbS') (if_F n10 (if_T (i_loT h (by decide)).1 rfl)), bd2_k (x_isS_T m1 hS7 haS') (if_F n10 (bd2_k (x_isS_T m1 hS7 hbS') (if_F n10 (bd2_k (x_in_lo h (by decide) _) (if_T n00 rfl))))), hI⟩
  by_cases hn1 : n < 1
  · exact ⟨-1000002, σ, σ, A, bd2_k (x_both_T c1 hS7 haS' hbS') (if_F n10 (if_T (of_eq_true (ilt_T hn1 (by decide))) rfl)), bd2_k (x_isS_T m1 hS7 haS') (if_F n10 (bd2_k (x_isS_T m1 hS7 hbS') (if_F n10 (bd2_k (x_in_F (Or.inl hn1) hn (by decide) (by decide)) (if_T n00 rfl))))), hI⟩
  have hn1' := Nat.le_of_not_lt hn1
  by_cases hn9 : 9 < n
  · exact ⟨-1000002, σ, σ, A, bd2_k (x_both_T c1 hS7 haS' hbS') (if_F n10 (if_F (of_eq_false (ilt_F hn1' hn)) (if_F (of_eq_false (ile_F hn9 hn)) rfl))), bd2_k (x_isS_T m1 hS7 haS') (if_F n10 (bd2_k (x_isS_T m1 hS7 hbS') (if_F n10 (bd2_k (x_in_F (Or.inr hn9) hn (by decide) (by decide)) (if_T n00 rfl))))), hI⟩
  have hn9' := Nat.le_of_not_lt hn9
  have o6 := @x_open6 N σ A hI.1 hC a b haS' hbS'
  have o7 := @x_open7 (N + 8) σ A hI.1 hM a b haS' hbS'
  obtain ⟨d1, d2, d3, d4, d5⟩ := cS a haS'
  obtain ⟨e1, e2, e3, e4, e5⟩ := mS a haS'
  obtain ⟨f1, f2, f3, f4, f5⟩ := cS b hbS'
  obtain ⟨g1, g2, g3, g4, g5⟩ := mS b hbS'
  obtain ⟨p1, p2, p3, p4, p5, p6⟩ := hAS a haS'
  obtain ⟨q1, q2, q3, q4, q5, q6⟩ := hAS b hbS'
  by_cases hop : opB A a b = true
  case neg =>
    rw [if_neg hop] at o6 o7
    exact ⟨-1000003, σ, σ, A, bd2_k (x_both_T c1 hS7 haS' hbS') (if_F n10 (if_F (of_eq_false (ilt_F hn1' hn)) (if_T (of_eq_true (ile_T hn9' (by decide))) (bd2_k o6 (if_T n00 rfl))))), bd2_k (x_isS_T m1 hS7 haS') (if_F n10 (bd2_k (x_isS_T m1 hS7 hbS') (if_F n10 (bd2_k (x_in_T hn1' hn9' (by decide)) (if_F n10 (bd2_k o7 (if_T n00 rfl))))))), hI⟩
  rw [if_pos hop] at o6 o7
  have hab : ¬ a = b := by
    intro q
    subst q
    rw [opB_e, p6] at hop
    exact absurd hop (by decide)
  have fin : ∀ (v : Int32) (σ1 σ2 : Sg) (A' : Ab), _ → _ → Inv A' σ2 → Ok2 _ _ σ := fun v σ1 σ2 A' H6 H7 hI' => ⟨v, σ1, σ2, A', bd2_k (x_both_T c1 hS7 haS' hbS') (if_F n10 (if_F (of_eq_false (ilt_F hn1' hn)) (if_T (of_eq_true (ile_T hn9' (by decide))) (bd2_k o6 (if_F n10 (gd_k (inb_nI (Nat.lt_of_lt_of_le haS' hS7) (by decide)) H6)))))), H7, hI'⟩
  sorry
