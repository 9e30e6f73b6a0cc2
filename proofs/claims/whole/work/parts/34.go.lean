/-! goings -/
theorem x_both_T {N : Nat} {σ : Sg} {S a b : Nat} (hS : rg σ 1 0 = nI S) (h7 : S ≤ 7) (ha : a < S) (hb : b < S) : f_X4_hasBoth N (nI a) (nI b) σ = some (nI 1, σ) := by
  unfold f_X4_hasBoth
  exact bd2_k (x_has_T hS h7 ha) (if_F n10 (bd2_k (x_has_T hS h7 hb) (if_F n10 rfl)))
theorem x_both_F1 {N : Nat} {σ : Sg} {x y : Int32} (h : f_X4_has N x σ = some (nI 0, σ)) : f_X4_hasBoth N x y σ = some (nI 0, σ) := by
  unfold f_X4_hasBoth
  exact bd2_k h (if_T n00 rfl)
theorem x_both_F2 {N : Nat} {σ : Sg} {x y : Int32} (g : f_X4_has N x σ = some (nI 1, σ)) (h : f_X4_has N y σ = some (nI 0, σ)) : f_X4_hasBoth N x y σ = some (nI 0, σ) := by
  unfold f_X4_hasBoth
  exact bd2_k g (if_F n10 (bd2_k h (if_T n00 rfl)))
theorem op_go {N : Nat} {σ : Sg} {A : Ab} (hI : Inv A σ) (x y z : Int32) : Ok2 (f_X6_go (N + 8) x y z) (f_X7_go (N + 8) x y z) σ := by
  obtain ⟨⟨hS7, hD99, hT100, hW5, hZ7⟩, hAS, hAT, hAZ, hAW, hAW0⟩ := id hI.1
  obtain ⟨-, hC, hM, hK, r, hr, r1, r2, r3⟩ := id hI
  obtain ⟨⟨c1, c2, c3, c4, c5⟩, cS, cT, cZ, cW⟩ := id hC
  obtain ⟨⟨m1, m2, m3, m4, m5, m6⟩, mS, mT, mZ, mW⟩ := id hM
  unfold f_X6_go f_X7_go
  rcases i_cases x with h | ⟨a, ha, rfl⟩
  · exact ⟨-1000001, σ, σ, A, bd2_k (x_both_F1 (x_has_lo h)) (if_T n00 rfl), bd2_k (x_isS_lo h) (if_T n00 rfl), hI⟩
  by_cases haS : aS A ≤ a
  · exact ⟨-1000001, σ, σ, A, bd2_k (x_both_F1 (x_has_F c1 hS7 haS ha)) (if_T n00 rfl), bd2_k (x_isS_F m1 hS7 haS ha) (if_T n00 rfl), hI⟩
  have haS' : a < aS A := by omega
  rcases i_cases y with h | ⟨b, hb, rfl⟩
  · exact ⟨-1000001, σ, σ, A, bd2_k (x_both_F2 (x_has_T c1 hS7 haS') (x_has_lo h)) (if_T n00 rfl), bd2_k (x_isS_T m1 hS7 haS') (if_F n10 (bd2_k (x_isS_lo h) (if_T n00 rfl))), hI⟩
  by_cases hbS : aS A ≤ b
  · exact ⟨-1000001, σ, σ, A, bd2_k (x_both_F2 (x_has_T c1 hS7 haS') (x_has_F c1 hS7 hbS hb)) (if_T n00 rfl), bd2_k (x_isS_T m1 hS7 haS') (if_F n10 (bd2_k (x_isS_F m1 hS7 hbS hb) (if_T n00 rfl))), hI⟩
  have hbS' : b < aS A := by omega
  rcases i_cases z with h | ⟨n, hn, rfl⟩
  · exact ⟨-1000002, σ, σ, A, bd2_k (x_both_T c1 hS7 haS' hbS') (if_F n10 (if_T (i_loT h (by decide)).1 rfl)), bd2_k (x_isS_T m1 hS7 haS') (if_F n10 (bd2_k (x_isS_T m1 hS7 hbS') (if_F n10 (bd2_k (x_in_lo h (by decide) _) (if_T n00 rfl))))), hI⟩
  by_cases hn1 : n < 1
  · exact ⟨-1000002, σ, σ, A, bd2_k (x_both_T c1 hS7 haS' hbS') (if_F n10 (if_T (of_eq_true (ilt_T hn1 (by decide))) rfl)), bd2_k (x_isS_T m1 hS7 haS') (if_F n10 (bd2_k (x_isS_T m1 hS7 hbS') (if_F n10 (bd2_k (x_in_F (Or.inl hn1) hn (by decide) (by decide)) (if_T n00 rfl))))), hI⟩
  have hn1' := Nat.le_of_not_lt hn1
  by_cases hn9 : 9 < n
  · exact ⟨-1000002, σ, σ, A, bd2_k (x_both_T c1 hS7 haS' hbS') (if_F n10 (if_F (of_eq_false (ilt_F hn1' hn)) (if_F (of_eq_false (ile_F hn9 hn)) rfl))), bd2_k (x_isS_T m1 hS7 haS') (if_F n10 (bd2_k (x_isS_T m1 hS7 hbS') (if_F n10 (bd2_k (x_in_F (Or.inr hn9) hn (by decide) (by decide)) (if_T n00 rfl))))), hI⟩
  have hn9' := Nat.le_of_not_lt hn9
  have o6 := @x_open6 N σ A hI.1 hC a b haS' hbS'
  have o7 := @x_open7 (N + 8) σ A hI.1 hM a b haS' hbS'
  obtain ⟨d1, d2, d3, d4, d5⟩ := cS a haS'
  obtain ⟨e1, e2, e3, e4, e5⟩ := mS a haS'
  obtain ⟨f1, f2, f3, f4, f5⟩ := cS b hbS'
  obtain ⟨g1, g2, g3, g4, g5⟩ := mS b hbS'
  obtain ⟨p1, p2, p3, p4, p5, p6⟩ := hAS a haS'
  obtain ⟨q1, q2, q3, q4, q5, q6⟩ := hAS b hbS'
  by_cases hop : opB A a b = true
  case neg =>
    rw [if_neg hop] at o6 o7
    exact ⟨-1000003, σ, σ, A, bd2_k (x_both_T c1 hS7 haS' hbS') (if_F n10 (if_F (of_eq_false (ilt_F hn1' hn)) (if_T (of_eq_true (ile_T hn9' (by decide))) (bd2_k o6 (if_T n00 rfl))))), bd2_k (x_isS_T m1 hS7 haS') (if_F n10 (bd2_k (x_isS_T m1 hS7 hbS') (if_F n10 (bd2_k (x_in_T hn1' hn9' (by decide)) (if_F n10 (bd2_k o7 (if_T n00 rfl))))))), hI⟩
  rw [if_pos hop] at o6 o7
  have hab : ¬ a = b := by
    intro q
    subst q
    rw [opB_e, p6] at hop
    rw [Bool.false_and, Bool.false_and] at hop
    exact Bool.noConfusion hop
  by_cases h1 : 9999 < oo A a + n
  · refine ⟨-1000003, σ, σ, A, bd2_k (x_both_T c1 hS7 haS' hbS') (if_F n10 (if_F (of_eq_false (ilt_F hn1' hn)) (if_T (of_eq_true (ile_T hn9' (by decide))) (bd2_k o6 (if_F n10 (gd_k (inb_nI (Nat.lt_of_lt_of_le haS' hS7) (by decide)) (if_T ?_ rfl))))))), bd2_k (x_isS_T m1 hS7 haS') (if_F n10 (bd2_k (x_isS_T m1 hS7 hbS') (if_F n10 (bd2_k (x_in_T hn1' hn9' (by decide)) (if_F n10 (bd2_k o7 (if_F n10 (gd_k ?_ (if_T ?_ rfl))))))))), hI⟩
    · rw [nI_clamp (by omega), d4, l_9999, nI_add]
      exact of_eq_true (ilt_T h1 (by omega))
    · rw [l_31, nI_add]
      exact inb_nI (by omega) (by decide)
    · rw [l_31, nI_add, nI_clamp (by omega), e4, l_9999, nI_add]
      exact of_eq_true (ilt_T h1 (by omega))
  by_cases h2 : 9999 < ii A b + n
  · refine ⟨-1000003, σ, σ, A, bd2_k (x_both_T c1 hS7 haS' hbS') (if_F n10 (if_F (of_eq_false (ilt_F hn1' hn)) (if_T (of_eq_true (ile_T hn9' (by decide))) (bd2_k o6 (if_F n10 (gd_k (inb_nI (Nat.lt_of_lt_of_le haS' hS7) (by decide)) (if_F ?_ (gd_k (inb_nI (Nat.lt_of_lt_of_le hbS' hS7) (by decide)) (if_F ?_ rfl))))))))), bd2_k (x_isS_T m1 hS7 haS') (if_F n10 (bd2_k (x_isS_T m1 hS7 hbS') (if_F n10 (bd2_k (x_in_T hn1' hn9' (by decide)) (if_F n10 (bd2_k o7 (if_F n10 (gd_k ?_ (if_F ?_ (gd_k ?_ (if_F ?_ rfl))))))))))), hI⟩
    · rw [nI_clamp (by omega), d4, l_9999, nI_add]
      exact of_eq_false (ilt_F (by omega) (by omega))
    · rw [nI_clamp (by omega), f3, l_9999, nI_add]
      exact of_eq_false (ile_F h2 (by omega))
    · rw [l_31, nI_add]
      exact inb_nI (by omega) (by decide)
    · rw [l_31, nI_add, nI_clamp (by omega), e4, l_9999, nI_add]
      exact of_eq_false (ilt_F (by omega) (by omega))
    · rw [l_24, nI_add]
      exact inb_nI (by omega) (by decide)
    · rw [l_24, nI_add, nI_clamp (by omega), g3, l_9999, nI_add]
      exact of_eq_false (ile_F h2 (by omega))
  refine ⟨nI (ii A b + n) - nI (oo A b), sar (sar σ 13 a (nI (oo A a + n))) 12 b (nI (ii A b + n)), sar (sar (sar (sar σ 13 a (nI (oo A a + n))) 12 b (nI (ii A b + n))) 61 (31 + a) (nI (oo A a + n))) 61 (24 + b) (nI (ii A b + n)), (A.1, kd A, vv A, (fun i => if i = b then ii A b + n else ii A i), (fun i => if i = a then oo A a + n else oo A i), ld A, tp A, ti A, tu A, tw A), ?_, ?_, ?_⟩
  · refine bd2_k (x_both_T c1 hS7 haS' hbS') (if_F n10 (if_F (of_eq_false (ilt_F hn1' hn)) (if_T (of_eq_true (ile_T hn9' (by decide))) (bd2_k o6 (if_F n10 ?_)))))
    unfold f_X4_uneven
    simp (disch := omega) only [↓nm_eq, gd_t, bd_s, bd2_s, l_0, l_1, l_2, l_3, l_4, l_5, l_6, l_7, l_8, l_9, l_10, l_11, l_12, l_13, l_14, l_15, l_16, l_17, l_18, l_19, l_20, l_21, l_22, l_23, l_24, l_25, l_31, l_32, l_33, l_38, l_40, l_41, l_48, l_51, l_57, l_59, l_60, l_61, l_63, l_87, l_94, l_97, l_99, l_100, l_101, l_102, l_115, l_124, l_127, l_128, l_140, l_201, l_206, l_300, l_906, l_999, l_9999, l_1000000, l_252645135, l_858993459, l_1000000000, l_1431655765, nI_add, pk_mul, nI_clamp, inb_nI, ilt_T, ilt_F, ile_T, ile_F, ieq_T, ieq_F, nbz_0, nbz_1, rg_sar, ar_srg, ar_s1, ar_s2, rg_s1, rg_s2, neg_1, neg_2, ↓reduceIte, true_and, and_true, and_self, ite_true, ite_false, d4, f3, f4]
  · have hM1 : RM 61 A (sar (sar σ 13 a (nI (oo A a + n))) 12 b (nI (ii A b + n))) := hM.same (by rw [ar_sar_ne (by omega), ar_sar_ne (by omega)])
    have o7' := @x_open7 (N + 8) _ A hI.1 hM1 a b haS' hbS'
    rw [if_pos hop] at o7'
    refine bd2_k (x_isS_T hM1.1.1 hS7 haS') (if_F n10 (bd2_k (x_isS_T hM1.1.1 hS7 hbS') (if_F n10 (bd2_k (x_in_T hn1' hn9' (by decide)) (if_F n10 (bd2_k o7' (if_F n10 ?_)))))))
    unfold f_X7_uneven
    simp (disch := omega) only [↓nm_eq, gd_t, bd_s, bd2_s, l_0, l_1, l_2, l_3, l_4, l_5, l_6, l_7, l_8, l_9, l_10, l_11, l_12, l_13, l_14, l_15, l_16, l_17, l_18, l_19, l_20, l_21, l_22, l_23, l_24, l_25, l_31, l_32, l_33, l_38, l_40, l_41, l_48, l_51, l_57, l_59, l_60, l_61, l_63, l_87, l_94, l_97, l_99, l_100, l_101, l_102, l_115, l_124, l_127, l_128, l_140, l_201, l_206, l_300, l_906, l_999, l_9999, l_1000000, l_252645135, l_858993459, l_1000000000, l_1431655765, nI_add, pk_mul, nI_clamp, inb_nI, ilt_T, ilt_F, ile_T, ile_F, ieq_T, ieq_F, nbz_0, nbz_1, rg_sar, ar_srg, ar_s1, ar_s2, rg_s1, rg_s2, neg_1, neg_2, ↓reduceIte, true_and, and_true, and_self, ite_true, ite_false, e4, g3, g4]
  · refine hI.upd ⟨⟨hS7, hD99, hT100, hW5, hZ7⟩, fun i hi => ?_, hAT, hAZ, hAW, hAW0⟩ ⟨⟨c1, c2, c3, c4, c5⟩, fun i hi => ?_, fun i hi => ?_, fun i hi => ?_, cW.same rfl rfl (fun k hk => ?_)⟩ ?_ (((((Sk.rf σ).sar _ _ rfl).sar _ _ rfl).sar _ _ rfl).sar _ _ rfl)
    · obtain ⟨p1, p2, p3, p4, p5⟩ := hAS i hi
      refine ⟨p1, p2, ?_, ?_, p5⟩
      · show (if i = b then ii A b + n else ii A i) ≤ 9999
        split <;> omega
      · show (if i = a then oo A a + n else oo A i) ≤ 9999
        split <;> omega
    · obtain ⟨p1, p2, p3, p4, p5⟩ := cS i hi
      refine ⟨?_, ?_, ?_, ?_, ?_⟩
      case refine_3 =>
        show _ = nI (if i = b then ii A b + n else ii A i)
        by_cases e : i = b
        · rw [if_pos e]
          simp (disch := omega) only [rg_sar, rg_sal, rg_srow, rg_srowl, ar_srg, ar_sal, ar_srowl, ar_s1, ar_s2, rg_s1, rg_s2]
        · rw [if_neg e]
          simp (disch := omega) only [rg_sar, rg_sal, rg_srow, rg_srowl, ar_srg, ar_sal, ar_srowl, ar_s1, ar_s2, rg_s1, rg_s2]
          exact p3
      case refine_4 =>
        show _ = nI (if i = a then oo A a + n else oo A i)
        by_cases e : i = a
        · rw [if_pos e]
          simp (disch := omega) only [rg_sar, rg_sal, rg_srow, rg_srowl, ar_srg, ar_sal, ar_srowl, ar_s1, ar_s2, rg_s1, rg_s2]
        · rw [if_neg e]
          simp (disch := omega) only [rg_sar, rg_sal, rg_srow, rg_srowl, ar_srg, ar_sal, ar_srowl, ar_s1, ar_s2, rg_s1, rg_s2]
          exact p4
      all_goals simp (disch := omega) only [rg_sar, rg_sal, rg_srow, rg_srowl, ar_srg, ar_sal, ar_srowl, ar_s1, ar_s2, rg_s1, rg_s2]
      all_goals assumption
    · simp (disch := omega) only [rg_sar, rg_sal, rg_srow, rg_srowl, ar_srg, ar_sal, ar_srowl, ar_s1, ar_s2, rg_s1, rg_s2]
      exact cT i hi
    · simp (disch := omega) only [rg_sar, rg_sal, rg_srow, rg_srowl, ar_srg, ar_sal, ar_srowl, ar_s1, ar_s2, rg_s1, rg_s2]
      exact cZ i hi
    · rw [ar_sar_ne (by omega), ar_sar_ne (by omega), ar_sar_ne (by omega), ar_sar_ne (by omega)]
    · refine ⟨⟨?_, ?_, ?_, ?_, ?_, ?_⟩, fun k hk => ⟨?_, ?_, ?_, ?_, fun j hj => ?_⟩, fun i hi => ?_, fun i hi => ⟨?_, ?_⟩, fun h0 => ⟨?_, fun i hi => ?_⟩⟩
      case refine_9 =>
        have hk' : k < aS A := hk
        show _ = nI (if k = b then ii A b + n else ii A k)
        by_cases e : k = b
        · rw [if_pos e]
          simp (disch := omega) only [rg_sar, rg_sal, rg_srow, rg_srowl, ar_srg, ar_sal, ar_srowl, ar_s1, ar_s2, rg_s1, rg_s2]
        · rw [if_neg e]
          simp (disch := omega) only [rg_sar, rg_sal, rg_srow, rg_srowl, ar_srg, ar_sal, ar_srowl, ar_s1, ar_s2, rg_s1, rg_s2]
          exact (mS k hk).2.2.1
      case refine_10 =>
        have hk' : k < aS A := hk
        show _ = nI (if k = a then oo A a + n else oo A k)
        by_cases e : k = a
        · rw [if_pos e]
          simp (disch := omega) only [rg_sar, rg_sal, rg_srow, rg_srowl, ar_srg, ar_sal, ar_srowl, ar_s1, ar_s2, rg_s1, rg_s2]
        · rw [if_neg e]
          simp (disch := omega) only [rg_sar, rg_sal, rg_srow, rg_srowl, ar_srg, ar_sal, ar_srowl, ar_s1, ar_s2, rg_s1, rg_s2]
          exact (mS k hk).2.2.2.1
      all_goals try have hk' : k < aS A := hk
      all_goals try have hj' : j < aS A := hj
      all_goals try have hi' : i < aZ A := hi
      all_goals simp (disch := omega) only [rg_sar, rg_sal, rg_srow, rg_srowl, ar_srg, ar_sal, ar_srowl, ar_s1, ar_s2, rg_s1, rg_s2]
      all_goals try (first | exact m1 | exact m2 | exact m3 | exact m4 | exact m5 | exact m6 | exact (mS k hk).1 | exact (mS k hk).2.1 | exact (mS k hk).2.2.1 | exact (mS k hk).2.2.2.1 | exact (mS k hk).2.2.2.2 j hj | exact mT i hi | exact (mZ i hi).1 | exact (mZ i hi).2 | exact (mW h0).1 | exact (mW h0).2 i hi)
