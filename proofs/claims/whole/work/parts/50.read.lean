/-! towns: the class's clauses -/
/-- a head is read, and its clause begun -/
def Hr (pre : Tw) (o : Option (Int32 × Sg)) (σ : Sg) (r : Bool × Nat × Nat × Nat) : Prop := ∃ σ', o = some (nI r.1.toNat, σ') ∧ OP σ σ' ∧ rg σ' 6 3 = nI r.2.1 ∧ (r.1 = true → RX pre r.2.2.1 r.2.2.2 [] σ')
theorem Hr.eq {pre : Tw} {o o' : Option (Int32 × Sg)} {σ : Sg} {r : Bool × Nat × Nat × Nat} (h : o = o') (g : Hr pre o' σ r) : Hr pre o σ r := by
  rw [h]
  exact g
theorem aRest_T {T : Nat → Nat} {e w c p : Nat} {l : List Nat} (h : cAt T e p c = true) : aRest T e w (c :: l) p = aRest T e w l (p + 1) := by
  have e1 : aLit T e (c :: l) p = aLit T e l (p + 1) := if_pos h
  unfold aRest
  rw [e1]
theorem aRest_F {T : Nat → Nat} {e w c p : Nat} {l : List Nat} (h : ¬ cAt T e p c = true) : aRest T e w (c :: l) p = (false, p, 0, 0) := by
  have e1 : aLit T e (c :: l) p = (false, p) := if_neg h
  unfold aRest
  rw [e1]
  rfl
theorem x_begin5 {N w n : Nat} {pre : Tw} {σ : Sg} (hl : pre.length ≤ 9) (hc : (twC pre).length ≤ 100) (hr : RT 5 36 pre σ) : ∃ σ', f_X5_begin N (nI w) (nI n) σ = some σ' ∧ OP σ σ' ∧ RX pre w n [] σ' ∧ ∀ j, rg σ' 6 j = rg σ 6 j := by
  obtain ⟨a1, a2, a3, a4, a5⟩ := hr
  refine ⟨sar (srg (sar (sar σ 36 pre.length (nI w)) 37 pre.length (nI n)) 5 0 (nI (pre.length + 1))) 38 (pre.length + 1) (nI (twC pre).length), ?_, ⟨fun k j h1 h2 => by rw [rg_sar, rg_s1 (by omega), rg_sar, rg_sar], fun k hk => ?_, rfl, by rw [ar_s1 (by omega), ar_srg, ar_sar_ne (by decide), ar_sar_ne (by decide)]⟩, ⟨?_, ?_, fun i hi => ⟨?_, ?_⟩, ⟨?_, ?_⟩, fun i hi => ?_, ?_, fun i hi => ?_⟩, fun j => by rw [rg_sar, rg_s1 (by omega), rg_sar, rg_sar]⟩
  · unfold f_X5_begin f_X5_isFull
    rw [a1]
    refine bd2_k (if_T (of_eq_true (ilt_T (by omega : pre.length < 10) (by decide))) rfl) (if_T rfl ?_)
    rw [a1, nI_clamp (by omega)]
    refine gd_k (inb_nI (by omega) (by decide)) (nm_k ?_)
    rw [show rg (sar σ 36 pre.length (nI w)) 5 0 = nI pre.length from a1, nI_clamp (by omega)]
    refine gd_k (inb_nI (by omega) (by decide)) (nm_k ?_)
    rw [show rg (sar (sar σ 36 pre.length (nI w)) 37 pre.length (nI n)) 5 0 = nI pre.length from a1, l_1, nI_add]
    refine nm_k ?_
    rw [show rg (srg (sar (sar σ 36 pre.length (nI w)) 37 pre.length (nI n)) 5 0 (nI (pre.length + 1))) 5 0 = nI (pre.length + 1) from rg_s2 ⟨rfl, rfl⟩, nI_clamp (by omega)]
    refine gd_k (inb_nI (by omega) (by decide)) (nm_k ?_)
    rw [show rg (srg (sar (sar σ 36 pre.length (nI w)) 37 pre.length (nI n)) 5 0 (nI (pre.length + 1))) 5 4 = nI (twC pre).length from a2]
  · rw [ar_sar_ne (by omega), ar_srg, ar_sar_ne (by omega), ar_sar_ne (by omega)]
  · rw [rg_sar, rg_s2 ⟨rfl, rfl⟩]
  · exact a2
  · rw [ar_sar_ne (by decide), ar_srg, ar_sar_ne (by decide), ar_s1 (by omega)]
    exact (a3 i hi).1
  · rw [ar_sar_ne (by decide), ar_srg, ar_s1 (by omega), ar_sar_ne (by decide)]
    exact (a3 i hi).2
  · rw [ar_sar_ne (by decide), ar_srg, ar_sar_ne (by decide), ar_s2 ⟨rfl, rfl⟩]
  · rw [ar_sar_ne (by decide), ar_srg, ar_s2 ⟨rfl, rfl⟩]
  · rw [ar_s1 (by omega), ar_srg, ar_sar_ne (by decide), ar_sar_ne (by decide)]
    exact a4 i hi
  · rw [ar_s2 ⟨rfl, rfl⟩]
    rfl
  · rw [ar_sar_ne (by decide), ar_srg, ar_sar_ne (by decide), ar_sar_ne (by decide), List.append_nil]
    exact a5 i hi
theorem x_tail6 {N e p w : Nat} {T : Nat → Nat} {pre : Tw} {σ0 σ : Sg} (he : e ≤ 100) (hp : p ≤ e) (hT : ∀ i, i < e → T i < 128) (hl : pre.length ≤ 9) (hc : (twC pre).length ≤ 100) (o0 : OP σ0 σ) (h : TP T e p σ) (hr : RT 5 36 pre σ) : Hr pre (bd2 (f_X2_take N (32 : Int32) σ) fun v33 σ33 => if v33 = 0 then (some ((0 : Int32), σ33)) else (bd2 (f_X2_readNumber N σ33) fun v40 σ40 => if v40 = 0 then (some ((0 : Int32), σ40)) else (bd2 (f_X2_take N (32 : Int32) σ40) fun v49 σ49 => if v49 = 0 then (some ((0 : Int32), σ49)) else (bd (f_X5_begin N (nI w) (rg σ49 6 4) σ49) fun σ66 => some ((1 : Int32), σ66))))) σ0 (aRest T e w [32] p) := by
  by_cases c0 : cAt T e p 32 = true
  case neg =>
    rw [aRest_F c0]
    exact ⟨σ, bd2_k (x_take_F (c := 32) he hp hT (by decide) h c0) (if_T n00 rfl), o0, h.2.1, fun q => by cases q⟩
  rw [aRest_T c0]
  have hp1 := (cAt_lt c0).1
  have o1 : OP σ0 (srg σ 6 3 (nI (p + 1))) := o0.tr (OP.pl σ _)
  have h1 : TP T e (p + 1) (srg σ 6 3 (nI (p + 1))) := h.mv (OP.pl σ _) rfl
  have hr1 : RT 5 36 pre (srg σ 6 3 (nI (p + 1))) := hr.same (rg_s1 (by omega)) (rg_s1 (by omega)) (fun k _ => rfl)
  have tk := x_take_T (N := N) (c := 32) he h c0
  generalize srg σ 6 3 (nI (p + 1)) = s1 at o1 h1 hr1 tk
  obtain ⟨σ2, e2, o2, r2, g2, d2, a2⟩ := x_num6 (N := N) he (by omega) hT h1
  obtain ⟨n1, n2, n3⟩ := aNum_P (T := T) (e := e) (p := p + 1) (by omega)
  have h2 := h1.mv o2 r2
  have hr2 : RT 5 36 pre σ2 := hr1.same (d2 0) (d2 4) (fun k _ => by rw [a2])
  have er : aRest T e w [] (p + 1) = if (aNum T e (p + 1)).1 = true then (if cAt T e (aNum T e (p + 1)).2.1 32 = true then (true, (aNum T e (p + 1)).2.1 + 1, w, (aNum T e (p + 1)).2.2) else (false, (aNum T e (p + 1)).2.1, 0, 0)) else (false, (aNum T e (p + 1)).2.1, 0, 0) := rfl
  rw [er]
  by_cases cn : (aNum T e (p + 1)).1 = true
  · rw [if_pos cn]
    rw [cn] at e2
    by_cases c3 : cAt T e (aNum T e (p + 1)).2.1 32 = true
    · rw [if_pos c3]
      have o3 := (o1.tr o2).tr (OP.pl σ2 (nI ((aNum T e (p + 1)).2.1 + 1)))
      have hr3 : RT 5 36 pre (srg σ2 6 3 (nI ((aNum T e (p + 1)).2.1 + 1))) := hr2.same (rg_s1 (by omega)) (rg_s1 (by omega)) (fun k _ => rfl)
      obtain ⟨σ4, e4, o4, x4, r4⟩ := x_begin5 (N := N) (w := w) (n := (aNum T e (p + 1)).2.2) hl hc hr3
      refine ⟨σ4, bd2_k tk (if_F n10 (bd2_k e2 (if_F n10 (bd2_k (x_take_T (c := 32) he h2 c3) (if_F n10 (bd_k ?_ rfl)))))), o3.tr o4, (r4 3).trans rfl, fun _ => x4⟩
      rw [rg_s1 (by omega), g2 cn]
      exact e4
    · rw [if_neg c3]
      exact ⟨σ2, bd2_k tk (if_F n10 (bd2_k e2 (if_F n10 (bd2_k (x_take_F (c := 32) he n2 hT (by decide) h2 c3) (if_T n00 rfl))))), o1.tr o2, r2, fun q => by cases q⟩
  · rw [if_neg cn]
    rw [bF cn] at e2
    exact ⟨σ2, bd2_k tk (if_F n10 (bd2_k e2 (if_T n00 rfl))), o1.tr o2, r2, fun q => by cases q⟩

theorem x_rest_v2 {N e p : Nat} {T : Nat → Nat} {pre : Tw} {σ : Sg} (he : e ≤ 100) (hp : p ≤ e) (hT : ∀ i, i < e → T i < 128) (hl : pre.length ≤ 9) (hc : (twC pre).length ≤ 100) (h : TP T e p σ) (hr : RT 5 36 pre σ) : Hr pre (f_X2_readRest_v2 (N + 8) (nI 0) σ) σ (aRest T e 0 [105, 110, 101, 32] p) := by
  have l32 : (32 : Int32) = nI 32 := rfl
  show Hr pre (b_X2_readRest_v2_2b (N + 8) (b_X2_readRest_v2_2 (N + 8) (N + 7)) (nI 0) 0 σ) σ _
  unfold b_X2_readRest_v2_2b
  by_cases c0 : cAt T e p 105 = true
  case neg =>
    rw [aRest_F c0]
    refine ⟨σ, if_F (by decide) (gd_k (by decide) (bd2_k (x_take_F (c := 105) he hp hT (by decide) h c0) (if_T n00 rfl))), (OP.rf σ), h.2.1, fun q => by cases q⟩
  rw [aRest_T c0]
  refine Hr.eq (if_F (by decide) (gd_k (by decide) (bd2_k (x_take_T (c := 105) he h c0) (if_F n10 (nm_k rfl))))) ?_
  have hp1 : p + 1 ≤ e := (cAt_lt c0).1
  have o1 : OP σ (srg σ 6 3 (nI (p + 1))) := (OP.rf σ).tr (OP.pl σ _)
  have h1 : TP T e (p + 1) (srg σ 6 3 (nI (p + 1))) := h.mv o1 rfl
  have hr1 : RT 5 36 pre (srg σ 6 3 (nI (p + 1))) := hr.same (rg_s1 (by omega)) (rg_s1 (by omega)) (fun k _ => rfl)
  generalize srg σ 6 3 (nI (p + 1)) = s1 at o1 h1 hr1 ⊢
  generalize p + 1 = p1 at hp1 h1 ⊢
  show Hr pre (b_X2_readRest_v2_2b (N + 8) (b_X2_readRest_v2_2 (N + 8) (N + 6)) (nI 0) 1 s1) σ _
  unfold b_X2_readRest_v2_2b
  by_cases c1 : cAt T e p1 110 = true
  case neg =>
    rw [aRest_F c1]
    refine ⟨s1, if_F (by decide) (gd_k (by decide) (bd2_k (x_take_F (c := 110) he hp1 hT (by decide) h1 c1) (if_T n00 rfl))), o1, h1.2.1, fun q => by cases q⟩
  rw [aRest_T c1]
  refine Hr.eq (if_F (by decide) (gd_k (by decide) (bd2_k (x_take_T (c := 110) he h1 c1) (if_F n10 (nm_k rfl))))) ?_
  have hp2 : p1 + 1 ≤ e := (cAt_lt c1).1
  have o2 : OP σ (srg s1 6 3 (nI (p1 + 1))) := o1.tr (OP.pl s1 _)
  have h2 : TP T e (p1 + 1) (srg s1 6 3 (nI (p1 + 1))) := h.mv o2 rfl
  have hr2 : RT 5 36 pre (srg s1 6 3 (nI (p1 + 1))) := hr1.same (rg_s1 (by omega)) (rg_s1 (by omega)) (fun k _ => rfl)
  generalize srg s1 6 3 (nI (p1 + 1)) = s2 at o2 h2 hr2 ⊢
  generalize p1 + 1 = p2 at hp2 h2 ⊢
  show Hr pre (b_X2_readRest_v2_2b (N + 8) (b_X2_readRest_v2_2 (N + 8) (N + 5)) (nI 0) 2 s2) σ _
  unfold b_X2_readRest_v2_2b
  by_cases c2 : cAt T e p2 101 = true
  case neg =>
    rw [aRest_F c2]
    refine ⟨s2, if_F (by decide) (gd_k (by decide) (bd2_k (x_take_F (c := 101) he hp2 hT (by decide) h2 c2) (if_T n00 rfl))), o2, h2.2.1, fun q => by cases q⟩
  rw [aRest_T c2]
  refine Hr.eq (if_F (by decide) (gd_k (by decide) (bd2_k (x_take_T (c := 101) he h2 c2) (if_F n10 (nm_k rfl))))) ?_
  have hp3 : p2 + 1 ≤ e := (cAt_lt c2).1
  have o3 : OP σ (srg s2 6 3 (nI (p2 + 1))) := o2.tr (OP.pl s2 _)
  have h3 : TP T e (p2 + 1) (srg s2 6 3 (nI (p2 + 1))) := h.mv o3 rfl
  have hr3 : RT 5 36 pre (srg s2 6 3 (nI (p2 + 1))) := hr2.same (rg_s1 (by omega)) (rg_s1 (by omega)) (fun k _ => rfl)
  generalize srg s2 6 3 (nI (p2 + 1)) = s3 at o3 h3 hr3 ⊢
  generalize p2 + 1 = p3 at hp3 h3 ⊢
  show Hr pre (b_X2_readRest_v2_2b (N + 8) (b_X2_readRest_v2_2 (N + 8) (N + 4)) (nI 0) 3 s3) σ _
  unfold b_X2_readRest_v2_2b
  refine Hr.eq (if_T (by decide) rfl) ?_
  exact x_tail6 he hp3 hT hl hc o3 h3 hr3
theorem x_rest_v1 {N e p : Nat} {T : Nat → Nat} {pre : Tw} {σ : Sg} (he : e ≤ 100) (hp : p ≤ e) (hT : ∀ i, i < e → T i < 128) (hl : pre.length ≤ 9) (hc : (twC pre).length ≤ 100) (h : TP T e p σ) (hr : RT 5 36 pre σ) : Hr pre (f_X2_readRest_v1 (N + 8) (nI 1) σ) σ (aRest T e 1 [116, 101, 112, 32] p) := by
  have l32 : (32 : Int32) = nI 32 := rfl
  show Hr pre (b_X2_readRest_v1_2b (N + 8) (b_X2_readRest_v1_2 (N + 8) (N + 7)) (nI 1) 0 σ) σ _
  unfold b_X2_readRest_v1_2b
  by_cases c0 : cAt T e p 116 = true
  case neg =>
    rw [aRest_F c0]
    refine ⟨σ, if_F (by decide) (gd_k (by decide) (bd2_k (x_take_F (c := 116) he hp hT (by decide) h c0) (if_T n00 rfl))), (OP.rf σ), h.2.1, fun q => by cases q⟩
  rw [aRest_T c0]
  refine Hr.eq (if_F (by decide) (gd_k (by decide) (bd2_k (x_take_T (c := 116) he h c0) (if_F n10 (nm_k rfl))))) ?_
  have hp1 : p + 1 ≤ e := (cAt_lt c0).1
  have o1 : OP σ (srg σ 6 3 (nI (p + 1))) := (OP.rf σ).tr (OP.pl σ _)
  have h1 : TP T e (p + 1) (srg σ 6 3 (nI (p + 1))) := h.mv o1 rfl
  have hr1 : RT 5 36 pre (srg σ 6 3 (nI (p + 1))) := hr.same (rg_s1 (by omega)) (rg_s1 (by omega)) (fun k _ => rfl)
  generalize srg σ 6 3 (nI (p + 1)) = s1 at o1 h1 hr1 ⊢
  generalize p + 1 = p1 at hp1 h1 ⊢
  show Hr pre (b_X2_readRest_v1_2b (N + 8) (b_X2_readRest_v1_2 (N + 8) (N + 6)) (nI 1) 1 s1) σ _
  unfold b_X2_readRest_v1_2b
  by_cases c1 : cAt T e p1 101 = true
  case neg =>
    rw [aRest_F c1]
    refine ⟨s1, if_F (by decide) (gd_k (by decide) (bd2_k (x_take_F (c := 101) he hp1 hT (by decide) h1 c1) (if_T n00 rfl))), o1, h1.2.1, fun q => by cases q⟩
  rw [aRest_T c1]
  refine Hr.eq (if_F (by decide) (gd_k (by decide) (bd2_k (x_take_T (c := 101) he h1 c1) (if_F n10 (nm_k rfl))))) ?_
  have hp2 : p1 + 1 ≤ e := (cAt_lt c1).1
  have o2 : OP σ (srg s1 6 3 (nI (p1 + 1))) := o1.tr (OP.pl s1 _)
  have h2 : TP T e (p1 + 1) (srg s1 6 3 (nI (p1 + 1))) := h.mv o2 rfl
  have hr2 : RT 5 36 pre (srg s1 6 3 (nI (p1 + 1))) := hr1.same (rg_s1 (by omega)) (rg_s1 (by omega)) (fun k _ => rfl)
  generalize srg s1 6 3 (nI (p1 + 1)) = s2 at o2 h2 hr2 ⊢
  generalize p1 + 1 = p2 at hp2 h2 ⊢
  show Hr pre (b_X2_readRest_v1_2b (N + 8) (b_X2_readRest_v1_2 (N + 8) (N + 5)) (nI 1) 2 s2) σ _
  unfold b_X2_readRest_v1_2b
  by_cases c2 : cAt T e p2 112 = true
  case neg =>
    rw [aRest_F c2]
    refine ⟨s2, if_F (by decide) (gd_k (by decide) (bd2_k (x_take_F (c := 112) he hp2 hT (by decide) h2 c2) (if_T n00 rfl))), o2, h2.2.1, fun q => by cases q⟩
  rw [aRest_T c2]
  refine Hr.eq (if_F (by decide) (gd_k (by decide) (bd2_k (x_take_T (c := 112) he h2 c2) (if_F n10 (nm_k rfl))))) ?_
  have hp3 : p2 + 1 ≤ e := (cAt_lt c2).1
  have o3 : OP σ (srg s2 6 3 (nI (p2 + 1))) := o2.tr (OP.pl s2 _)
  have h3 : TP T e (p2 + 1) (srg s2 6 3 (nI (p2 + 1))) := h.mv o3 rfl
  have hr3 : RT 5 36 pre (srg s2 6 3 (nI (p2 + 1))) := hr2.same (rg_s1 (by omega)) (rg_s1 (by omega)) (fun k _ => rfl)
  generalize srg s2 6 3 (nI (p2 + 1)) = s3 at o3 h3 hr3 ⊢
  generalize p2 + 1 = p3 at hp3 h3 ⊢
  show Hr pre (b_X2_readRest_v1_2b (N + 8) (b_X2_readRest_v1_2 (N + 8) (N + 4)) (nI 1) 3 s3) σ _
  unfold b_X2_readRest_v1_2b
  refine Hr.eq (if_T (by decide) rfl) ?_
  exact x_tail6 he hp3 hT hl hc o3 h3 hr3
theorem x_rest_v0 {N e p : Nat} {T : Nat → Nat} {pre : Tw} {σ : Sg} (he : e ≤ 100) (hp : p ≤ e) (hT : ∀ i, i < e → T i < 128) (hl : pre.length ≤ 9) (hc : (twC pre).length ≤ 100) (h : TP T e p σ) (hr : RT 5 36 pre σ) : Hr pre (f_X2_readRest (N + 8) (nI 2) σ) σ (aRest T e 2 [108, 108, 111, 119, 32] p) := by
  have l32 : (32 : Int32) = nI 32 := rfl
  show Hr pre (b_X2_readRest_2b (N + 8) (b_X2_readRest_2 (N + 8) (N + 7)) (nI 2) 0 σ) σ _
  unfold b_X2_readRest_2b
  by_cases c0 : cAt T e p 108 = true
  case neg =>
    rw [aRest_F c0]
    refine ⟨σ, if_F (by decide) (gd_k (by decide) (bd2_k (x_take_F (c := 108) he hp hT (by decide) h c0) (if_T n00 rfl))), (OP.rf σ), h.2.1, fun q => by cases q⟩
  rw [aRest_T c0]
  refine Hr.eq (if_F (by decide) (gd_k (by decide) (bd2_k (x_take_T (c := 108) he h c0) (if_F n10 (nm_k rfl))))) ?_
  have hp1 : p + 1 ≤ e := (cAt_lt c0).1
  have o1 : OP σ (srg σ 6 3 (nI (p + 1))) := (OP.rf σ).tr (OP.pl σ _)
  have h1 : TP T e (p + 1) (srg σ 6 3 (nI (p + 1))) := h.mv o1 rfl
  have hr1 : RT 5 36 pre (srg σ 6 3 (nI (p + 1))) := hr.same (rg_s1 (by omega)) (rg_s1 (by omega)) (fun k _ => rfl)
  generalize srg σ 6 3 (nI (p + 1)) = s1 at o1 h1 hr1 ⊢
  generalize p + 1 = p1 at hp1 h1 ⊢
  show Hr pre (b_X2_readRest_2b (N + 8) (b_X2_readRest_2 (N + 8) (N + 6)) (nI 2) 1 s1) σ _
  unfold b_X2_readRest_2b
  by_cases c1 : cAt T e p1 108 = true
  case neg =>
    rw [aRest_F c1]
    refine ⟨s1, if_F (by decide) (gd_k (by decide) (bd2_k (x_take_F (c := 108) he hp1 hT (by decide) h1 c1) (if_T n00 rfl))), o1, h1.2.1, fun q => by cases q⟩
  rw [aRest_T c1]
  refine Hr.eq (if_F (by decide) (gd_k (by decide) (bd2_k (x_take_T (c := 108) he h1 c1) (if_F n10 (nm_k rfl))))) ?_
  have hp2 : p1 + 1 ≤ e := (cAt_lt c1).1
  have o2 : OP σ (srg s1 6 3 (nI (p1 + 1))) := o1.tr (OP.pl s1 _)
  have h2 : TP T e (p1 + 1) (srg s1 6 3 (nI (p1 + 1))) := h.mv o2 rfl
  have hr2 : RT 5 36 pre (srg s1 6 3 (nI (p1 + 1))) := hr1.same (rg_s1 (by omega)) (rg_s1 (by omega)) (fun k _ => rfl)
  generalize srg s1 6 3 (nI (p1 + 1)) = s2 at o2 h2 hr2 ⊢
  generalize p1 + 1 = p2 at hp2 h2 ⊢
  show Hr pre (b_X2_readRest_2b (N + 8) (b_X2_readRest_2 (N + 8) (N + 5)) (nI 2) 2 s2) σ _
  unfold b_X2_readRest_2b
  by_cases c2 : cAt T e p2 111 = true
  case neg =>
    rw [aRest_F c2]
    refine ⟨s2, if_F (by decide) (gd_k (by decide) (bd2_k (x_take_F (c := 111) he hp2 hT (by decide) h2 c2) (if_T n00 rfl))), o2, h2.2.1, fun q => by cases q⟩
  rw [aRest_T c2]
  refine Hr.eq (if_F (by decide) (gd_k (by decide) (bd2_k (x_take_T (c := 111) he h2 c2) (if_F n10 (nm_k rfl))))) ?_
  have hp3 : p2 + 1 ≤ e := (cAt_lt c2).1
  have o3 : OP σ (srg s2 6 3 (nI (p2 + 1))) := o2.tr (OP.pl s2 _)
  have h3 : TP T e (p2 + 1) (srg s2 6 3 (nI (p2 + 1))) := h.mv o3 rfl
  have hr3 : RT 5 36 pre (srg s2 6 3 (nI (p2 + 1))) := hr2.same (rg_s1 (by omega)) (rg_s1 (by omega)) (fun k _ => rfl)
  generalize srg s2 6 3 (nI (p2 + 1)) = s3 at o3 h3 hr3 ⊢
  generalize p2 + 1 = p3 at hp3 h3 ⊢
  show Hr pre (b_X2_readRest_2b (N + 8) (b_X2_readRest_2 (N + 8) (N + 4)) (nI 2) 3 s3) σ _
  unfold b_X2_readRest_2b
  by_cases c3 : cAt T e p3 119 = true
  case neg =>
    rw [aRest_F c3]
    refine ⟨s3, if_F (by decide) (gd_k (by decide) (bd2_k (x_take_F (c := 119) he hp3 hT (by decide) h3 c3) (if_T n00 rfl))), o3, h3.2.1, fun q => by cases q⟩
  rw [aRest_T c3]
  refine Hr.eq (if_F (by decide) (gd_k (by decide) (bd2_k (x_take_T (c := 119) he h3 c3) (if_F n10 (nm_k rfl))))) ?_
  have hp4 : p3 + 1 ≤ e := (cAt_lt c3).1
  have o4 : OP σ (srg s3 6 3 (nI (p3 + 1))) := o3.tr (OP.pl s3 _)
  have h4 : TP T e (p3 + 1) (srg s3 6 3 (nI (p3 + 1))) := h.mv o4 rfl
  have hr4 : RT 5 36 pre (srg s3 6 3 (nI (p3 + 1))) := hr3.same (rg_s1 (by omega)) (rg_s1 (by omega)) (fun k _ => rfl)
  generalize srg s3 6 3 (nI (p3 + 1)) = s4 at o4 h4 hr4 ⊢
  generalize p3 + 1 = p4 at hp4 h4 ⊢
  show Hr pre (b_X2_readRest_2b (N + 8) (b_X2_readRest_2 (N + 8) (N + 3)) (nI 2) 4 s4) σ _
  unfold b_X2_readRest_2b
  refine Hr.eq (if_T (by decide) rfl) ?_
  exact x_tail6 he hp4 hT hl hc o4 h4 hr4
theorem Hr.nbz {pre : Tw} {o : Option (Int32 × Sg)} {σ : Sg} {r : Bool × Nat × Nat × Nat} (h : Hr pre o σ r) : Hr pre (bd2 o fun v s => gd (nbz v) (some (v, s))) σ r := by
  obtain ⟨σ', e, q⟩ := h
  refine ⟨σ', bd2_k e (gd_k ?_ rfl), q⟩
  cases r.1 <;> decide
theorem Hr.tr {pre : Tw} {o : Option (Int32 × Sg)} {σ0 σ : Sg} {r : Bool × Nat × Nat × Nat} (g : OP σ0 σ) (h : Hr pre o σ r) : Hr pre o σ0 r := by
  obtain ⟨σ', e, o1, q⟩ := h
  exact ⟨σ', e, g.tr o1, q⟩
theorem x_head6 {N e p : Nat} {T : Nat → Nat} {pre : Tw} {σ : Sg} (he : e ≤ 100) (hp : p ≤ e) (hT : ∀ i, i < e → T i < 128) (hl : pre.length ≤ 9) (hc : (twC pre).length ≤ 100) (h : TP T e p σ) (hr : RT 5 36 pre σ) : Hr pre (f_X2_readHead (N + 8) σ) σ (aHead T e p) := by
  have o1 := OP.pl σ (nI (p + 1))
  have h1 : TP T e (p + 1) (srg σ 6 3 (nI (p + 1))) := h.mv o1 rfl
  have hr1 : RT 5 36 pre (srg σ 6 3 (nI (p + 1))) := hr.same (rg_s1 (by omega)) (rg_s1 (by omega)) (fun k _ => rfl)
  unfold f_X2_readHead b_X2_readHead_57 aHead
  by_cases c1 : cAt T e p 102 = true
  · rw [if_pos c1]
    have hp1 := (cAt_lt c1).1
    refine Hr.eq (bd2_k (x_take_T (c := 102) he h c1) (if_F n10 rfl)) ?_
    exact ((x_rest_v2 (N := N) he hp1 hT hl hc h1 hr1).nbz).tr o1
  rw [if_neg c1]
  by_cases c2 : cAt T e p 115 = true
  · rw [if_pos c2]
    have hp1 := (cAt_lt c2).1
    refine Hr.eq (bd2_k (x_take_F (c := 102) he hp hT (by decide) h c1) (if_T n00 (bd2_k (x_take_T (c := 115) he h c2) (if_F n10 rfl)))) ?_
    exact ((x_rest_v1 (N := N) he hp1 hT hl hc h1 hr1).nbz).tr o1
  rw [if_neg c2]
  by_cases c3 : cAt T e p 97 = true
  · rw [if_pos c3]
    have hp1 := (cAt_lt c3).1
    obtain ⟨σ', e4, q1, q2, q3⟩ := x_rest_v0 (N := N) he hp1 hT hl hc h1 hr1
    by_cases hb : (aRest T e 2 [108, 108, 111, 119, 32] (p + 1)).1 = true
    · rw [hb] at e4
      refine ⟨σ', bd2_k (x_take_F (c := 102) he hp hT (by decide) h c1) (if_T n00 (bd2_k (x_take_F (c := 115) he hp hT (by decide) h c2) (if_T n00 (bd2_k (x_take_T (c := 97) he h c3) (if_F n10 (bd2_k e4 (if_F n10 ?_))))))), o1.tr q1, q2, q3⟩
      rw [hb]
      rfl
    · rw [bF hb] at e4
      refine ⟨σ', bd2_k (x_take_F (c := 102) he hp hT (by decide) h c1) (if_T n00 (bd2_k (x_take_F (c := 115) he hp hT (by decide) h c2) (if_T n00 (bd2_k (x_take_T (c := 97) he h c3) (if_F n10 (bd2_k e4 (if_T n00 ?_))))))), o1.tr q1, q2, q3⟩
      rw [bF hb]
      rfl
  · rw [if_neg c3]
    exact ⟨σ, bd2_k (x_take_F (c := 102) he hp hT (by decide) h c1) (if_T n00 (bd2_k (x_take_F (c := 115) he hp hT (by decide) h c2) (if_T n00 (bd2_k (x_take_F (c := 97) he hp hT (by decide) h c3) (if_T n00 rfl))))), OP.rf σ, h.2.1, fun q => by cases q⟩
theorem getD_lt {α : Type} (a b : List α) (i : Nat) (d : α) (h : i < a.length) : (a ++ b).getD i d = a.getD i d := by
  rw [List.getD_eq_getElem?_getD, List.getElem?_append_left h, ← List.getD_eq_getElem?_getD]
theorem twC_snoc (pre : Tw) (w n : Nat) (cs : List Nat) : twC (pre ++ [(w, n, cs)]) = twC pre ++ cs := by
  rw [twC_app]
  congr 1
  exact List.append_nil cs
theorem RX.rt {pre : Tw} {w n : Nat} {cs : List Nat} {σ : Sg} (h : RX pre w n cs σ) : RT 5 36 (pre ++ [(w, n, cs)]) σ := by
  obtain ⟨a1, a2, a3, a4, a5, a6, a7⟩ := h
  have hl : (pre ++ [(w, n, cs)]).length = pre.length + 1 := List.length_append
  refine ⟨?_, ?_, fun i hi => ?_, fun i hi => ?_, fun i hi => ?_⟩
  · rw [hl]
    exact a1
  · rw [twC_snoc, List.length_append]
    exact a2
  · rw [hl] at hi
    by_cases q : i < pre.length
    · rw [getD_lt _ _ _ _ q]
      exact a3 i q
    · have e : i = pre.length := by omega
      rw [e, getD_app]
      exact a4
  · rw [hl] at hi
    unfold twFrom
    by_cases q : i ≤ pre.length
    · rw [List.take_append_of_le_length q]
      exact a5 i q
    · have e : i = pre.length + 1 := by omega
      have ht : (pre ++ [(w, n, cs)]).take (pre.length + 1) = pre ++ [(w, n, cs)] := by rw [← hl, List.take_length]
      rw [e, ht, twC_snoc, List.length_append]
      exact a6
  · rw [twC_snoc] at hi ⊢
    rw [List.length_append] at hi
    exact a7 i hi
theorem x_read31 {N e : Nat} {T : Nat → Nat} (he : e ≤ 100) (hT : ∀ i, i < e → T i < 128) : ∀ m fuel i pre p σ, i + m = 10 → pre.length = i → m ≠ 0 → p ≤ e → (twC pre).length ≤ p → TP T e p σ → RT 5 36 pre σ → ∃ σ', b_X2_read_31 (N + 200) (fuel + m + 1) (nI i) σ = some (if (aTown T e m pre p).1 = true then -1 else nI (aTown T e m pre p).2.1, σ') ∧ OP σ σ' ∧ ((aTown T e m pre p).1 = true → RT 5 36 (aTown T e m pre p).2.2 σ') ∧ ((aTown T e m pre p).2.1 ≤ e)
  | 0, fuel, i, pre, p, σ, hj, hl, hm, _, _, _, _ => absurd rfl hm
  | m + 1, fuel, i, pre, p, σ, hj, hl, hm, hp, hc, h, hr => by
    have hi : i < 10 := by omega
    obtain ⟨σ1, e1, o1, r1, x1⟩ := x_head6 (N := N + 192) he hp hT (by omega) (by omega) h hr
    obtain ⟨g1, g2, g3⟩ := aHead_P (T := T) (e := e) hp
    have e0 : aTown T e (m + 1) pre p = if (aCl T e p).1 = true then (if (aCl T e p).2.1 = e then (true, e, pre ++ [(aCl T e p).2.2]) else if m = 0 ∨ cAt T e (aCl T e p).2.1 59 = false then (false, (aCl T e p).2.1, []) else aTown T e m (pre ++ [(aCl T e p).2.2]) ((aCl T e p).2.1 + 1)) else (false, (aCl T e p).2.1, []) := rfl
    rw [e0]
    have cl := aCl_P (T := T) (e := e) hp
    have go : ∀ q, b_X2_read_31b (N + 200) (b_X2_read_31 (N + 200) (fuel + m + 1)) (nI i) σ = q → b_X2_read_31 (N + 200) (fuel + (m + 1) + 1) (nI i) σ = q := fun q hq => hq
    by_cases hh : (aHead T e p).1 = true
    · rw [hh] at e1
      have hx := x1 hh
      have g4 := g3 hh
      have t1 := h.mv o1 r1
      have ec : aCl T e p = ((EI T e 5 (aHead T e p).2.1).1, (EI T e 5 (aHead T e p).2.1).2.1, ((aHead T e p).2.2.1, (aHead T e p).2.2.2, (EI T e 5 (aHead T e p).2.1).2.2)) := if_pos hh
      obtain ⟨σ2, e2, o2, r2, w2, x2⟩ := x_EI6 (N := N) (w := (aHead T e p).2.2.1) (n := (aHead T e p).2.2.2) he hT (pre := pre) (by omega) 20 5 (by decide) (by decide) [] (aHead T e p).2.1 σ1 t1 hx (by show (twC pre).length + 0 ≤ _; omega) g2
      rw [ec] at cl ⊢
      dsimp only at cl ⊢
      by_cases hk : (EI T e 5 (aHead T e p).2.1).1 = true
      · rw [if_pos hk]
        rw [hk] at e2
        have hx2 := x2 hk
        rw [List.nil_append] at hx2
        have t2 := t1.mv o2 r2
        have rt2 := hx2.rt
        have cl3 := cl.2.2 hk
        have hle : (EI T e 5 (aHead T e p).2.1).2.1 ≤ e := cl.2.1
        have hcl : (twC (pre ++ [((aHead T e p).2.2.1, (aHead T e p).2.2.2, (EI T e 5 (aHead T e p).2.1).2.2)])).length = (twC pre).length + (EI T e 5 (aHead T e p).2.1).2.2.length := by rw [twC_snoc, List.length_append]
        by_cases he2 : (EI T e 5 (aHead T e p).2.1).2.1 = e
        · rw [if_pos he2]
          refine ⟨σ2, go _ ?_, o1.tr o2, fun _ => rt2, Nat.le_refl e⟩
          unfold b_X2_read_31b
          refine if_F (of_eq_false (ile_F hi (by decide))) (bd2_k e1 (if_F n10 (bd2_k e2 (if_F n10 (if_T ?_ rfl)))))
          rw [r2, t2.1, he2]
        · rw [if_neg he2]
          have hne : ¬ rg σ2 6 3 = rg σ2 6 2 := by
            rw [r2, t2.1]
            exact of_eq_false (ieq_F he2 (by omega) (by omega))
          by_cases hmz : m = 0 ∨ cAt T e (EI T e 5 (aHead T e p).2.1).2.1 59 = false
          · rw [if_pos hmz]
            refine ⟨σ2, go _ ?_, o1.tr o2, (fun q => by cases q), hle⟩
            unfold b_X2_read_31b f_X5_isFull
            refine if_F (of_eq_false (ile_F hi (by decide))) (bd2_k e1 (if_F n10 (bd2_k e2 (if_F n10 (if_F hne ?_)))))
            rw [hx2.1]
            by_cases hm0 : m = 0
            · refine bd2_k (if_F (of_eq_false (ilt_F (by omega : 10 ≤ pre.length + 1) (by omega))) rfl) (if_F n10 ?_)
              rw [r2]
              rfl
            · rcases hmz with q | hmz
              · exact absurd q hm0
              · refine bd2_k (if_T (of_eq_true (ilt_T (by omega : pre.length + 1 < 10) (by decide))) rfl) (if_T rfl (bd2_k (x_take_F (c := 59) he hle hT (by decide) t2 (by rw [hmz]; decide)) (if_T n00 ?_)))
                rw [r2]
                rfl
          · rw [if_neg hmz]
            have hm0 : m ≠ 0 := fun q => hmz (Or.inl q)
            have h59 : cAt T e (EI T e 5 (aHead T e p).2.1).2.1 59 = true := by
              cases hq : cAt T e (EI T e 5 (aHead T e p).2.1).2.1 59
              · exact absurd (Or.inr hq) hmz
              · rfl
            have hlt := (cAt_lt h59).1
            have o3 := OP.pl σ2 (nI ((EI T e 5 (aHead T e p).2.1).2.1 + 1))
            obtain ⟨σ4, e4, o4, q4⟩ := x_read31 (N := N) he hT m fuel (i + 1) (pre ++ [((aHead T e p).2.2.1, (aHead T e p).2.2.2, (EI T e 5 (aHead T e p).2.1).2.2)]) ((EI T e 5 (aHead T e p).2.1).2.1 + 1) (srg σ2 6 3 (nI ((EI T e 5 (aHead T e p).2.1).2.1 + 1))) (by omega) (by rw [List.length_append]; show pre.length + 1 = i + 1; omega) hm0 hlt (by rw [hcl]; omega) (t2.mv o3 rfl) (rt2.same (rg_s1 (by omega)) (rg_s1 (by omega)) (fun k _ => rfl))
            refine ⟨σ4, go _ ?_, ((o1.tr o2).tr o3).tr o4, q4⟩
            unfold b_X2_read_31b f_X5_isFull
            refine if_F (of_eq_false (ile_F hi (by decide))) (bd2_k e1 (if_F n10 (bd2_k e2 (if_F n10 (if_F hne ?_)))))
            rw [hx2.1]
            refine bd2_k (if_T (of_eq_true (ilt_T (by omega : pre.length + 1 < 10) (by decide))) rfl) (if_T rfl (bd2_k (x_take_T (c := 59) he t2 h59) (if_F n10 (nm_k ?_))))
            rw [l_1, nI_add]
            exact e4
      · rw [if_neg hk]
        rw [bF hk] at e2
        refine ⟨σ2, go _ ?_, o1.tr o2, (fun q => by cases q), cl.2.1⟩
        unfold b_X2_read_31b
        refine if_F (of_eq_false (ile_F hi (by decide))) (bd2_k e1 (if_F n10 (bd2_k e2 (if_T n00 ?_))))
        rw [r2]
        rfl
    · rw [bF hh] at e1
      have ec : aCl T e p = (false, (aHead T e p).2.1, (0, 0, [])) := if_neg hh
      rw [ec]
      dsimp only
      rw [if_neg Bool.false_ne_true]
      refine ⟨σ1, go _ ?_, o1, (fun q => by cases q), g2⟩
      unfold b_X2_read_31b
      refine if_F (of_eq_false (ile_F hi (by decide))) (bd2_k e1 (if_T n00 ?_))
      rw [r1]
      rfl
/-- the class reads its tape -/
theorem x_read6 {N : Nat} {A : Ab} {σ : Sg} (hA : AOK A) (hC : RC 1 10 3 26 A σ) (h38 : ar σ 38 0 = nI 0) : ∃ σ', f_X2_read (N + 200) (nI (aT A)) σ = some (if (aTown (tp A) (aT A) 10 [] 0).1 = true then -1 else nI (aTown (tp A) (aT A) 10 [] 0).2.1, σ') ∧ ((∀ k j, k ≠ 5 → k ≠ 6 → rg σ' k j = rg σ k j) ∧ (∀ k, ¬ (36 ≤ k ∧ k ≤ 39) → k ≠ 41 → ar σ' k = ar σ k) ∧ ar σ' 38 0 = nI 0) ∧ ((aTown (tp A) (aT A) 10 [] 0).1 = true → RT 5 36 (aTown (tp A) (aT A) 10 [] 0).2.2 σ') ∧ (aTown (tp A) (aT A) 10 [] 0).2.1 ≤ 100 := by
  have hT100 := hA.1.2.2.1
  obtain ⟨s0, hs0⟩ : ∃ s0, s0 = srg (srg (srg (srg (srow σ 41 (va_cpy (ar σ 15) (ar σ 41) 0 0 100)) 6 2 (nI (aT A))) 6 3 (nI 0)) 5 0 (nI 0)) 5 4 (nI 0) := ⟨_, rfl⟩
  have ht : TP (tp A) (aT A) 0 s0 := by
    subst hs0
    refine ⟨rfl, rfl, fun i hi => ?_⟩
    rw [ar_srg, ar_srg, ar_srg, ar_srg, ar_srow_self, sb_cpy0 (by omega)]
    exact hC.2.2.1 i hi
  have h41 : ∀ k, k ≠ 41 → ar s0 k = ar σ k := fun k hk => by
    subst hs0
    rw [ar_srg, ar_srg, ar_srg, ar_srg, ar_srow_ne hk]
  have hrt : RT 5 36 [] s0 := by
    refine ⟨by subst hs0; rfl, by subst hs0; rfl, fun i hi => absurd hi (Nat.not_lt_zero i), fun i hi => ?_, fun i hi => absurd hi (Nat.not_lt_zero i)⟩
    have : i = 0 := Nat.le_zero.mp hi
    subst this
    rw [h41 _ (by decide)]
    exact h38
  obtain ⟨σ', e1, o1, q1, q2⟩ := x_read31 (N := N) (T := tp A) (e := aT A) hT100 hA.2.2.1 10 (N + 189) 0 [] 0 s0 rfl rfl (by decide) (Nat.zero_le _) (Nat.le_refl _) ht hrt
  rw [show N + 189 + 10 + 1 = N + 200 by omega] at e1
  refine ⟨σ', ?_, ⟨fun k j h1 h2 => ?_, fun k h1 h2 => ?_, ?_⟩, q1, by omega⟩
  · unfold f_X2_read f_X5_clear
    refine nm_k (nm_k (nm_k (bd_k rfl ?_)))
    rw [← e1, hs0]
    rfl
  · rw [o1.1 k j h1 (fun q => h2 q.1)]
    subst hs0
    rw [rg_s1 (by omega), rg_s1 (by omega), rg_s1 (by omega), rg_s1 (by omega), rg_srow]
  · rw [o1.2.1 k h1, h41 k h2]
  · rw [o1.2.2.2, h41 _ (by decide)]
    exact h38
