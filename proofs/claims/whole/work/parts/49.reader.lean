/-! towns: the class's reader -/
theorem bF {b : Bool} (h : ¬ b = true) : b = false := (Bool.not_eq_true b).mp h
/-- what the reader may change -/
def OP (σ σ' : Sg) : Prop := (∀ k j, k ≠ 5 → ¬ (k = 6 ∧ (j = 3 ∨ j = 4)) → rg σ' k j = rg σ k j) ∧ (∀ k, ¬ (36 ≤ k ∧ k ≤ 39) → ar σ' k = ar σ k) ∧ al σ' = al σ ∧ ar σ' 38 0 = ar σ 38 0
theorem OP.rf (σ : Sg) : OP σ σ := ⟨fun _ _ _ _ => rfl, fun _ _ => rfl, rfl, rfl⟩
theorem OP.tr {a b c : Sg} (h : OP a b) (g : OP b c) : OP a c := ⟨fun k j h1 h2 => (g.1 k j h1 h2).trans (h.1 k j h1 h2), fun k h1 => (g.2.1 k h1).trans (h.2.1 k h1), g.2.2.1.trans h.2.2.1, g.2.2.2.trans h.2.2.2⟩
/-- the tape and the place -/
def TP (T : Nat → Nat) (e p : Nat) (σ : Sg) : Prop := rg σ 6 2 = nI e ∧ rg σ 6 3 = nI p ∧ ∀ i, i < e → ar σ 41 i = nI (T i)
theorem TP.mv {T : Nat → Nat} {e p q : Nat} {σ σ' : Sg} (h : TP T e p σ) (o : OP σ σ') (g : rg σ' 6 3 = nI q) : TP T e q σ' := ⟨(o.1 6 2 (by decide) (by decide)).trans h.1, g, fun i hi => by rw [o.2.1 41 (by decide)]; exact h.2.2 i hi⟩
/-- the draft, whatever it holds -/
def WK (L : Nat) (σ : Sg) : Prop := rg σ 5 0 = nI L ∧ ∃ c, c ≤ 100 ∧ rg σ 5 4 = nI c
/-- the draft: clauses that stand, and one that grows -/
def RX (pre : Tw) (w n : Nat) (cs : List Nat) (σ : Sg) : Prop := rg σ 5 0 = nI (pre.length + 1) ∧ rg σ 5 4 = nI ((twC pre).length + cs.length) ∧ (∀ i, i < pre.length → ar σ 36 i = nI (pre.getD i (0, 0, [])).1 ∧ ar σ 37 i = nI (pre.getD i (0, 0, [])).2.1) ∧ (ar σ 36 pre.length = nI w ∧ ar σ 37 pre.length = nI n) ∧ (∀ i, i ≤ pre.length → ar σ 38 i = nI (twFrom pre i)) ∧ ar σ 38 (pre.length + 1) = nI ((twC pre).length + cs.length) ∧ ∀ i, i < (twC pre).length + cs.length → ar σ 39 i = cc1 ((twC pre ++ cs).getD i 0)
theorem RX.pl {pre : Tw} {w n : Nat} {cs : List Nat} {σ : Sg} (h : RX pre w n cs σ) (j : Nat) (v : Int32) : RX pre w n cs (srg σ 6 j v) := by
  obtain ⟨a1, a2, a3⟩ := h
  exact ⟨(rg_s1 (by omega)).trans a1, (rg_s1 (by omega)).trans a2, a3⟩
theorem RX.wk {pre : Tw} {w n : Nat} {cs : List Nat} {σ : Sg} (h : RX pre w n cs σ) (hc : (twC pre).length + cs.length ≤ 100) : WK (pre.length + 1) σ := ⟨h.1, _, hc, h.2.1⟩
theorem WK.pl {L : Nat} {σ : Sg} (h : WK L σ) (j : Nat) (v : Int32) : WK L (srg σ 6 j v) := by
  obtain ⟨a, c, b1, b2⟩ := h
  exact ⟨(rg_s1 (by omega)).trans a, c, b1, (rg_s1 (by omega)).trans b2⟩
theorem OP.pl (σ : Sg) (v : Int32) : OP σ (srg σ 6 3 v) := ⟨fun k j h1 h2 => rg_s1 (by omega), fun _ _ => rfl, rfl, rfl⟩
theorem OP.nb (σ : Sg) (v : Int32) : OP σ (srg σ 6 4 v) := ⟨fun k j h1 h2 => rg_s1 (by omega), fun _ _ => rfl, rfl, rfl⟩
theorem gD_lt (a b : List Nat) (i : Nat) (h : i < a.length) : (a ++ b).getD i 0 = a.getD i 0 := by
  rw [List.getD_eq_getElem?_getD, List.getElem?_append_left h, ← List.getD_eq_getElem?_getD]
theorem gD_end (a : List Nat) (c : Nat) : (a ++ [c]).getD a.length 0 = c := getD_app a [] c 0
theorem x_put {N : Nat} {pre : Tw} {w n : Nat} {cs : List Nat} {σ : Sg} (h : RX pre w n cs σ) (hl : pre.length ≤ 9) (hc : (twC pre).length + cs.length < 100) (c : Nat) {v : Int32} (hv : v = cc1 c) : ∃ σ', f_X5_put N v σ = some σ' ∧ OP σ σ' ∧ RX pre w n (cs ++ [c]) σ' ∧ ∀ j, rg σ' 6 j = rg σ 6 j := by
  obtain ⟨a1, a2, a3, a4, a5, a6, a7⟩ := h
  refine ⟨sar (srg (sar σ 39 ((twC pre).length + cs.length) v) 5 4 (nI ((twC pre).length + cs.length + 1))) 38 (pre.length + 1) (nI ((twC pre).length + cs.length + 1)), ?_, ⟨fun k j h1 h2 => by rw [rg_sar, rg_s1 (by omega), rg_sar], fun k hk => ?_, rfl, by rw [ar_s1 (by omega), ar_srg, ar_sar_ne (by decide)]⟩, ?_, fun j => by rw [rg_sar, rg_s1 (by omega), rg_sar]⟩
  · unfold f_X5_put
    rw [a2, nI_clamp (by omega), l_1]
    refine if_F (of_eq_false (ile_F hc (by decide))) (gd_k (inb_nI hc (by decide)) (nm_k (nm_k ?_)))
    rw [show rg (sar σ 39 ((twC pre).length + cs.length) v) 5 4 = nI ((twC pre).length + cs.length) from a2, nI_add]
    rw [show rg (srg (sar σ 39 ((twC pre).length + cs.length) v) 5 4 (nI ((twC pre).length + cs.length + 1))) 5 0 = nI (pre.length + 1) from a1]
    refine gd_k (inb_nI (by omega) (by decide)) (nm_k ?_)
    rw [nI_clamp (by omega)]
    rfl
  · rw [ar_sar_ne (by omega), ar_srg, ar_sar_ne (by omega)]
  · have e1 : (cs ++ [c]).length = cs.length + 1 := List.length_append
    refine ⟨a1, ?_, fun i hi => a3 i hi, a4, fun i hi => ?_, ?_, fun i hi => ?_⟩
    · rw [e1]
      rfl
    · rw [ar_s1 (by omega)]
      exact a5 i hi
    · rw [e1, ar_s2 ⟨rfl, rfl⟩]
      rfl
    · rw [e1] at hi
      rw [ar_sar_ne (by decide), ar_srg, ← List.append_assoc]
      by_cases q : i = (twC pre).length + cs.length
      · rw [q, ar_s2 ⟨rfl, rfl⟩, hv, show (twC pre).length + cs.length = (twC pre ++ cs).length by rw [List.length_append], gD_end]
      · rw [ar_s1 (by omega), gD_lt _ _ _ (by rw [List.length_append]; omega)]
        exact a7 i (by omega)
theorem x_putw {N L : Nat} {σ : Sg} (h : WK L σ) (hL0 : 1 ≤ L) (hL : L ≤ 10) (v : Int32) : ∃ σ', f_X5_put N v σ = some σ' ∧ OP σ σ' ∧ WK L σ' ∧ ∀ j, rg σ' 6 j = rg σ 6 j := by
  obtain ⟨a1, c, hc, a2⟩ := h
  unfold f_X5_put
  rw [a2]
  by_cases h1 : 100 ≤ c
  · exact ⟨σ, if_T (of_eq_true (ile_T h1 (by omega))) rfl, OP.rf σ, ⟨a1, c, hc, a2⟩, fun j => rfl⟩
  · refine ⟨sar (srg (sar σ 39 c v) 5 4 (nI (c + 1))) 38 L (nI (c + 1)), ?_, ⟨fun k j h1 h2 => by rw [rg_sar, rg_s1 (by omega), rg_sar], fun k hk => ?_, rfl, by rw [ar_s1 (by omega), ar_srg, ar_sar_ne (by decide)]⟩, ⟨a1, c + 1, by omega, by rw [rg_sar, rg_s2 ⟨rfl, rfl⟩]⟩, fun j => by rw [rg_sar, rg_s1 (by omega), rg_sar]⟩
    · rw [nI_clamp (by omega), l_1]
      refine if_F (of_eq_false (ile_F (Nat.lt_of_not_le h1) (by decide))) (gd_k (inb_nI (by omega) (by decide)) (nm_k (nm_k ?_)))
      rw [show rg (sar σ 39 c v) 5 4 = nI c from a2, nI_add]
      rw [show rg (srg (sar σ 39 c v) 5 4 (nI (c + 1))) 5 0 = nI L from a1]
      refine gd_k (inb_nI (by omega) (by decide)) (nm_k ?_)
      rw [nI_clamp (by omega)]
      rfl
    · rw [ar_sar_ne (by omega), ar_srg, ar_sar_ne (by omega)]
section RD
variable {N e p : Nat} {T : Nat → Nat} {σ : Sg}
theorem x_take_T {c : Nat} (he : e ≤ 100) (h : TP T e p σ) (hc : cAt T e p c = true) : f_X2_take N (nI c) σ = some (nI 1, srg σ 6 3 (nI (p + 1))) := by
  obtain ⟨h1, h2⟩ := cAt_lt hc
  unfold f_X2_take
  rw [h.1, h.2.1, nI_clamp (by omega), h.2.2 p h1, h2, l_1, nI_add]
  exact if_F (of_eq_false (ile_F h1 (by omega))) (gd_k (inb_nI (by omega) (by decide)) (if_T rfl rfl))
theorem x_take_F {c : Nat} (he : e ≤ 100) (hp : p ≤ e) (hT : ∀ i, i < e → T i < 128) (hc7 : c < 128) (h : TP T e p σ) (hc : ¬ cAt T e p c = true) : f_X2_take N (nI c) σ = some (nI 0, σ) := by
  have hn := cAt_F (T := T) (e := e) (p := p) (c := c) (bF hc)
  unfold f_X2_take
  rw [h.1, h.2.1]
  by_cases h1 : p < e
  · rw [nI_clamp (by omega), h.2.2 p h1]
    have := hT p h1
    exact if_F (of_eq_false (ile_F h1 (by omega))) (gd_k (inb_nI (by omega) (by decide)) (if_F (of_eq_false (ieq_F (fun q => hn ⟨h1, q⟩) (by omega) (by omega))) rfl))
  · exact if_T (of_eq_true (ile_T (by omega) (by omega))) rfl
theorem x_dig_T (he : e ≤ 100) (h : TP T e p σ) (hd : dgt T e p = true) : f_X2_digit N σ = some (nI (T p - 48), σ) := by
  obtain ⟨h1, h2, h3⟩ := dgt_lt hd
  unfold f_X2_digit
  rw [h.1, h.2.1, nI_clamp (by omega), h.2.2 p h1]
  refine if_F (of_eq_false (ile_F h1 (by omega))) (gd_k (inb_nI (by omega) (by decide)) (if_F (of_eq_false (ilt_F h2 (by omega))) (gd_k (inb_nI (by omega) (by decide)) (if_T (of_eq_true (ile_T h3 (by decide))) (gd_k (inb_nI (by omega) (by decide)) ?_)))))
  rw [l_48, pk_sub h2]
theorem x_dig_F (he : e ≤ 100) (hp : p ≤ e) (hT : ∀ i, i < e → T i < 128) (h : TP T e p σ) (hd : ¬ dgt T e p = true) : f_X2_digit N σ = some (-1, σ) := by
  have hn := dgt_F hd
  unfold f_X2_digit
  rw [h.1, h.2.1]
  by_cases h1 : p < e
  · rw [nI_clamp (by omega), h.2.2 p h1]
    have := hT p h1
    refine if_F (of_eq_false (ile_F h1 (by omega))) (gd_k (inb_nI (by omega) (by decide)) ?_)
    by_cases h2 : T p < 48
    · exact if_T (of_eq_true (ilt_T h2 (by decide))) rfl
    · exact if_F (of_eq_false (ilt_F (by omega : 48 ≤ T p) (by omega))) (gd_k (inb_nI (by omega) (by decide)) (if_F (of_eq_false (ile_F (by omega : 57 < T p) (by omega))) rfl))
  · exact if_T (of_eq_true (ile_T (by omega) (by omega))) rfl
theorem x_num6 (he : e ≤ 100) (hp : p ≤ e) (hT : ∀ i, i < e → T i < 128) (h : TP T e p σ) : ∃ σ', f_X2_readNumber N σ = some (nI (aNum T e p).1.toNat, σ') ∧ OP σ σ' ∧ rg σ' 6 3 = nI (aNum T e p).2.1 ∧ ((aNum T e p).1 = true → rg σ' 6 4 = nI (aNum T e p).2.2) ∧ (∀ j, rg σ' 5 j = rg σ 5 j) ∧ ∀ k, ar σ' k = ar σ k := by
  unfold f_X2_readNumber aNum
  by_cases hd : dgt T e p = true
  · rw [if_pos hd]
    obtain ⟨h1, h2, h3⟩ := dgt_lt hd
    have o1 : OP σ (srg (srg σ 6 3 (nI (p + 1))) 6 4 (nI (T p - 48))) := (OP.pl σ _).tr (OP.nb _ _)
    have h' : TP T e (p + 1) (srg (srg σ 6 3 (nI (p + 1))) 6 4 (nI (T p - 48))) := h.mv o1 rfl
    by_cases g : 48 < T p ∧ dgt T e (p + 1) = true
    · rw [if_pos g]
      obtain ⟨g1, g2, g3⟩ := dgt_lt g.2
      refine ⟨srg (srg (srg (srg σ 6 3 (nI (p + 1))) 6 4 (nI (T p - 48))) 6 3 (nI (p + 2))) 6 4 (nI ((T p - 48) * 10 + (T (p + 1) - 48))), bd2_k (x_dig_T he h hd) (if_T (of_eq_true (ile_T (Nat.zero_le _) (by omega))) (nm_k (nm_k ?_))), (o1.tr (OP.pl _ _)).tr (OP.nb _ _), rfl, fun _ => rfl, fun j => ?_, fun k => rfl⟩
      · rw [h.2.1, l_1, nI_add]
        refine bd2_k (x_dig_T he h' g.2) (if_F (of_eq_false (ile_F (by omega : 0 < T p - 48) (by omega))) (if_F (of_eq_false (ilt_F (Nat.zero_le _) (by omega))) (nm_k (nm_k ?_))))
        rw [h'.2.1, nI_add, l_10, pk_mul, nI_add]
        rfl
      · rw [rg_s1 (by omega), rg_s1 (by omega), rg_s1 (by omega), rg_s1 (by omega)]
    · rw [if_neg g]
      refine ⟨srg (srg σ 6 3 (nI (p + 1))) 6 4 (nI (T p - 48)), bd2_k (x_dig_T he h hd) (if_T (of_eq_true (ile_T (Nat.zero_le _) (by omega))) (nm_k (nm_k ?_))), o1, rfl, fun _ => rfl, fun j => by rw [rg_s1 (by omega), rg_s1 (by omega)], fun k => rfl⟩
      rw [h.2.1, l_1, nI_add]
      by_cases g1 : 48 < T p
      · have gd : ¬ dgt T e (p + 1) = true := fun q => g ⟨g1, q⟩
        exact bd2_k (x_dig_F he (by omega) hT h' gd) (if_F (of_eq_false (ile_F (by omega : 0 < T p - 48) (by omega))) (if_T (by decide) rfl))
      · have q0 : nI (T p - 48) ≤ 0 := of_eq_true (ile_T (by omega) (by decide))
        by_cases gd : dgt T e (p + 1) = true
        · exact bd2_k (x_dig_T he h' gd) (if_T q0 rfl)
        · exact bd2_k (x_dig_F he (by omega) hT h' gd) (if_T q0 rfl)
  · rw [if_neg hd]
    exact ⟨σ, bd2_k (x_dig_F he hp hT h hd) (if_F (by decide) rfl), OP.rf σ, h.2.1, (fun q => by cases q), fun j => rfl, fun k => rfl⟩
theorem x_one6 (he : e ≤ 100) (hp : p ≤ e) (hT : ∀ i, i < e → T i < 128) (h : TP T e p σ) : f_X2_takeOneOf (N + 8) σ = some (match aOne T e p [115, 107, 117, 100, 108] 0 with
    | none => (-1, σ)
    | some i => (nI i, srg σ 6 3 (nI (p + 1)))) := by
  show b_X2_takeOneOf_2b (N + 8) (b_X2_takeOneOf_2 (N + 8) (N + 7)) 0 σ = _
  unfold b_X2_takeOneOf_2b
  refine if_F (by decide) (gd_k (by decide) ?_)
  by_cases h0 : cAt T e p 115 = true
  · rw [show aOne T e p [115, 107, 117, 100, 108] 0 = some 0 from if_pos h0]
    exact bd2_k (x_take_T (c := 115) he h h0) (if_F n10 rfl)
  rw [show aOne T e p [115, 107, 117, 100, 108] 0 = aOne T e p [107, 117, 100, 108] 1 from if_neg h0]
  refine bd2_k (x_take_F (c := 115) he hp hT (by decide) h h0) (if_T n00 (nm_k ?_))
  show b_X2_takeOneOf_2b (N + 8) (b_X2_takeOneOf_2 (N + 8) (N + 6)) 1 σ = _
  unfold b_X2_takeOneOf_2b
  refine if_F (by decide) (gd_k (by decide) ?_)
  by_cases h1 : cAt T e p 107 = true
  · rw [show aOne T e p [107, 117, 100, 108] 1 = some 1 from if_pos h1]
    exact bd2_k (x_take_T (c := 107) he h h1) (if_F n10 rfl)
  rw [show aOne T e p [107, 117, 100, 108] 1 = aOne T e p [117, 100, 108] 2 from if_neg h1]
  refine bd2_k (x_take_F (c := 107) he hp hT (by decide) h h1) (if_T n00 (nm_k ?_))
  show b_X2_takeOneOf_2b (N + 8) (b_X2_takeOneOf_2 (N + 8) (N + 5)) 2 σ = _
  unfold b_X2_takeOneOf_2b
  refine if_F (by decide) (gd_k (by decide) ?_)
  by_cases h2 : cAt T e p 117 = true
  · rw [show aOne T e p [117, 100, 108] 2 = some 2 from if_pos h2]
    exact bd2_k (x_take_T (c := 117) he h h2) (if_F n10 rfl)
  rw [show aOne T e p [117, 100, 108] 2 = aOne T e p [100, 108] 3 from if_neg h2]
  refine bd2_k (x_take_F (c := 117) he hp hT (by decide) h h2) (if_T n00 (nm_k ?_))
  show b_X2_takeOneOf_2b (N + 8) (b_X2_takeOneOf_2 (N + 8) (N + 4)) 3 σ = _
  unfold b_X2_takeOneOf_2b
  refine if_F (by decide) (gd_k (by decide) ?_)
  by_cases h3 : cAt T e p 100 = true
  · rw [show aOne T e p [100, 108] 3 = some 3 from if_pos h3]
    exact bd2_k (x_take_T (c := 100) he h h3) (if_F n10 rfl)
  rw [show aOne T e p [100, 108] 3 = aOne T e p [108] 4 from if_neg h3]
  refine bd2_k (x_take_F (c := 100) he hp hT (by decide) h h3) (if_T n00 (nm_k ?_))
  show b_X2_takeOneOf_2b (N + 8) (b_X2_takeOneOf_2 (N + 8) (N + 3)) 4 σ = _
  unfold b_X2_takeOneOf_2b
  refine if_F (by decide) (gd_k (by decide) ?_)
  by_cases h4 : cAt T e p 108 = true
  · rw [show aOne T e p [108] 4 = some 4 from if_pos h4]
    exact bd2_k (x_take_T (c := 108) he h h4) (if_F n10 rfl)
  rw [show aOne T e p [108] 4 = none from if_neg h4]
  refine bd2_k (x_take_F (c := 108) he hp hT (by decide) h h4) (if_T n00 (nm_k ?_))
  show b_X2_takeOneOf_2b (N + 8) (b_X2_takeOneOf_2 (N + 8) (N + 2)) 5 σ = _
  unfold b_X2_takeOneOf_2b
  exact if_T (by decide) rfl
theorem x_rel6 (he : e ≤ 100) (hp : p ≤ e) (hT : ∀ i, i < e → T i < 128) (h : TP T e p σ) : f_X2_takeOneOf_v1 (N + 8) σ = some (match aOne T e p [60, 61, 62] 0 with
    | none => (-1, σ)
    | some i => (nI i, srg σ 6 3 (nI (p + 1)))) := by
  show b_X2_takeOneOf_v1_2b (N + 8) (b_X2_takeOneOf_v1_2 (N + 8) (N + 7)) 0 σ = _
  unfold b_X2_takeOneOf_v1_2b
  refine if_F (by decide) (gd_k (by decide) ?_)
  by_cases h0 : cAt T e p 60 = true
  · rw [show aOne T e p [60, 61, 62] 0 = some 0 from if_pos h0]
    exact bd2_k (x_take_T (c := 60) he h h0) (if_F n10 rfl)
  rw [show aOne T e p [60, 61, 62] 0 = aOne T e p [61, 62] 1 from if_neg h0]
  refine bd2_k (x_take_F (c := 60) he hp hT (by decide) h h0) (if_T n00 (nm_k ?_))
  show b_X2_takeOneOf_v1_2b (N + 8) (b_X2_takeOneOf_v1_2 (N + 8) (N + 6)) 1 σ = _
  unfold b_X2_takeOneOf_v1_2b
  refine if_F (by decide) (gd_k (by decide) ?_)
  by_cases h1 : cAt T e p 61 = true
  · rw [show aOne T e p [61, 62] 1 = some 1 from if_pos h1]
    exact bd2_k (x_take_T (c := 61) he h h1) (if_F n10 rfl)
  rw [show aOne T e p [61, 62] 1 = aOne T e p [62] 2 from if_neg h1]
  refine bd2_k (x_take_F (c := 61) he hp hT (by decide) h h1) (if_T n00 (nm_k ?_))
  show b_X2_takeOneOf_v1_2b (N + 8) (b_X2_takeOneOf_v1_2 (N + 8) (N + 5)) 2 σ = _
  unfold b_X2_takeOneOf_v1_2b
  refine if_F (by decide) (gd_k (by decide) ?_)
  by_cases h2 : cAt T e p 62 = true
  · rw [show aOne T e p [62] 2 = some 2 from if_pos h2]
    exact bd2_k (x_take_T (c := 62) he h h2) (if_F n10 rfl)
  rw [show aOne T e p [62] 2 = none from if_neg h2]
  refine bd2_k (x_take_F (c := 62) he hp hT (by decide) h h2) (if_T n00 (nm_k ?_))
  show b_X2_takeOneOf_v1_2b (N + 8) (b_X2_takeOneOf_v1_2 (N + 8) (N + 4)) 3 σ = _
  unfold b_X2_takeOneOf_v1_2b
  exact if_T (by decide) rfl
end RD
/-- the class's f reads as r does -/
def Rf (T : Nat → Nat) (e : Nat) (pre : Tw) (w n : Nat) (f : Sg → Option (Int32 × Sg)) (r : Nat → Rs) : Prop := ∀ cs p σ, TP T e p σ → RX pre w n cs σ → (twC pre).length + cs.length ≤ p → p ≤ e → ∃ σ', f σ = some (nI (r p).1.toNat, σ') ∧ OP σ σ' ∧ rg σ' 6 3 = nI (r p).2.1 ∧ WK (pre.length + 1) σ' ∧ ((r p).1 = true → RX pre w n (cs ++ (r p).2.2) σ')
section RE
variable {N e : Nat} {T : Nat → Nat} {pre : Tw} {w n : Nat}
theorem x_test6 (he : e ≤ 100) (hT : ∀ i, i < e → T i < 128) (hl : pre.length ≤ 9) : Rf T e pre w n (f_X2_readTest (N + 8)) (aTest T e) := by
  intro cs p σ h hx hc hp
  have hwk := hx.wk (by omega)
  have k1 := x_one6 (N := N) he hp hT h
  unfold f_X2_readTest aTest
  cases h1 : aOne T e p [115, 107, 117, 100, 108] 0 with
  | none =>
    rw [h1] at k1
    exact ⟨σ, bd2_k k1 (if_F (by decide) rfl), OP.rf σ, h.2.1, hwk, fun q => by cases q⟩
  | some f =>
    rw [h1] at k1
    obtain ⟨q1, -, q2⟩ := aOne_P _ _ _ h1
    have q2' : f < 5 := q2
    have o1 := OP.pl σ (nI (p + 1))
    have t1 : TP T e (p + 1) (srg σ 6 3 (nI (p + 1))) := h.mv o1 rfl
    have k2 := x_rel6 (N := N) he (by omega) hT t1
    dsimp only
    cases h2 : aOne T e (p + 1) [60, 61, 62] 0 with
    | none =>
      rw [h2] at k2
      exact ⟨_, bd2_k k1 (if_T (of_eq_true (ile_T (Nat.zero_le _) (by omega))) (bd2_k k2 (if_T (by decide) rfl))), o1, rfl, hwk.pl _ _, fun q => by cases q⟩
    | some r =>
      rw [h2] at k2
      obtain ⟨q3, -, q4⟩ := aOne_P _ _ _ h2
      have q4' : r < 3 := q4
      have o2 := o1.tr (OP.pl (srg σ 6 3 (nI (p + 1))) (nI (p + 1 + 1)))
      have t2 : TP T e (p + 2) (srg (srg σ 6 3 (nI (p + 1))) 6 3 (nI (p + 1 + 1))) := h.mv o2 rfl
      obtain ⟨σ3, e3, o3, g3, g4, g5, g6⟩ := x_num6 (N := N + 8) he (by omega) hT t2
      obtain ⟨n1, n2, n3⟩ := aNum_P (T := T) (e := e) (p := p + 2) (by omega)
      have hx3 : RX pre w n cs σ3 := by
        have := (hx.pl 3 (nI (p + 1))).pl 3 (nI (p + 1 + 1))
        obtain ⟨a1, a2, a3⟩ := this
        exact ⟨(g5 0).trans a1, (g5 4).trans a2, by rw [g6, g6, g6, g6]; exact a3⟩
      dsimp only
      by_cases hn : (aNum T e (p + 2)).1 = true
      · rw [if_pos hn]
        have := n3 hn
        obtain ⟨σ4, e4, o4, x4, r4⟩ := x_put (N := N + 8) hx3 hl (by omega) (f * 300 + r * 100 + (aNum T e (p + 2)).2.2) (v := ((nI f * 3 + nI r) * 100 + nI (aNum T e (p + 2)).2.2)) (by
          rw [l_3, l_100, pk_mul, nI_add, pk_mul, nI_add]
          unfold cc1
          rw [if_neg (by omega), if_neg (by omega), if_neg (by omega)]
          congr 1
          omega)
        rw [hn] at e3
        refine ⟨σ4, bd2_k k1 (if_T (of_eq_true (ile_T (Nat.zero_le _) (by omega))) (bd2_k k2 (if_F (of_eq_false (ilt_F (Nat.zero_le _) (by omega))) (bd2_k e3 (if_F n10 (bd_k ?_ rfl)))))), (o2.tr o3).tr o4, by rw [r4, g3], x4.wk ?_, fun _ => x4⟩
        · rw [g4 hn]
          exact bd_k e4 rfl
        · rw [List.length_append]
          show (twC pre).length + (cs.length + 1) ≤ 100
          omega
      · rw [if_neg hn]
        have hn' : (aNum T e (p + 2)).1 = false := bF hn
        rw [hn'] at e3
        exact ⟨σ3, bd2_k k1 (if_T (of_eq_true (ile_T (Nat.zero_le _) (by omega))) (bd2_k k2 (if_F (of_eq_false (ilt_F (Nat.zero_le _) (by omega))) (bd2_k e3 (if_T n00 rfl))))), o2.tr o3, g3, hx3.wk (by omega), fun q => by cases q⟩
/-- the nots behind a part -/
theorem x_nots {kr : Int32 → Sg → Option (Int32 × Sg)} (he : e ≤ 100) (hl : pre.length ≤ 9) {i : Nat} (hi : i ≤ 5) {b : Bool} : ∀ m fuel o cs p σ, o + m = i → p ≤ 100 → rg σ 6 3 = nI p → WK (pre.length + 1) σ → (b = true → RX pre w n cs σ ∧ (twC pre).length + cs.length + m ≤ p) → ∃ σ', b_X2_readPart_72 N kr (fuel + m + 1) (nI i) (nI b.toNat) (nI o) σ = some (nI b.toNat, σ') ∧ OP σ σ' ∧ rg σ' 6 3 = nI p ∧ WK (pre.length + 1) σ' ∧ (b = true → RX pre w n (cs ++ List.replicate m 2000) σ')
  | 0, fuel, o, cs, p, σ, hj, hp, h3, hwk, hx => by
    have ei : o = i := by omega
    subst ei
    refine ⟨σ, ?_, OP.rf σ, h3, hwk, fun q => ?_⟩
    · show b_X2_readPart_72b N kr (b_X2_readPart_72 N kr fuel) _ _ _ _ = _
      unfold b_X2_readPart_72b
      exact if_T (of_eq_true (ile_T (Nat.le_refl _) (by omega))) (gd_k (by cases b <;> decide) rfl)
    · show RX pre w n (cs ++ []) σ
      rw [List.append_nil]
      exact (hx q).1
  | m + 1, fuel, o, cs, p, σ, hj, hp, h3, hwk, hx => by
    have st : ∃ σ1, f_X5_put N (-1) σ = some σ1 ∧ OP σ σ1 ∧ WK (pre.length + 1) σ1 ∧ rg σ1 6 3 = nI p ∧ (b = true → RX pre w n (cs ++ [2000]) σ1) := by
      cases b with
      | true =>
        obtain ⟨x1, x2⟩ := hx rfl
        obtain ⟨σ1, e1, o1, y1, r1⟩ := x_put (N := N) x1 hl (by omega) 2000 (v := -1) rfl
        exact ⟨σ1, e1, o1, y1.wk (by rw [List.length_append]; show (twC pre).length + (cs.length + 1) ≤ 100; omega), (r1 3).trans h3, fun _ => y1⟩
      | false =>
        obtain ⟨σ1, e1, o1, y1, r1⟩ := x_putw (N := N) hwk (by omega) (by omega) (-1)
        exact ⟨σ1, e1, o1, y1, (r1 3).trans h3, fun q => by cases q⟩
    obtain ⟨σ1, e1, o1, w1, r1, y1⟩ := st
    obtain ⟨σ2, e2, o2, r2, w2, y2⟩ := x_nots he hl hi m fuel (o + 1) (cs ++ [2000]) p σ1 (by omega) hp r1 w1 (fun q => ⟨y1 q, by
      have := (hx q).2
      rw [List.length_append]
      show (twC pre).length + (cs.length + 1) + m ≤ p
      omega⟩)
    refine ⟨σ2, ?_, o1.tr o2, r2, w2, fun q => ?_⟩
    · show b_X2_readPart_72b N kr (b_X2_readPart_72 N kr (fuel + m + 1)) _ _ _ _ = _
      unfold b_X2_readPart_72b
      rw [l_1, nI_add]
      exact if_F (of_eq_false (ile_F (by omega : o < i) (by omega))) (bd_k e1 (nm_k e2))
    · have := y2 q
      rw [List.append_assoc] at this
      exact this
/-- a part, behind i - o nots -/
theorem x_part6 (he : e ≤ 100) (hT : ∀ i, i < e → T i < 128) (hl : pre.length ≤ 9) {kr : Int32 → Sg → Option (Int32 × Sg)} {o : Nat} : ∀ k, (∀ j, j < k → Rf T e pre w n (kr (nI (5 - j))) (EI T e j)) → ∀ fuel i cs p σ, o ≤ i → i + k = 5 → TP T e p σ → RX pre w n cs σ → (twC pre).length + cs.length + (i - o) ≤ p → p ≤ e → ∃ σ', b_X2_readPart_2 (N + 8) kr (fuel + k + 1) (nI o) (nI i) σ = some (nI (aPart T e (EI T e) k p).1.toNat, σ') ∧ OP σ σ' ∧ rg σ' 6 3 = nI (aPart T e (EI T e) k p).2.1 ∧ WK (pre.length + 1) σ' ∧ ((aPart T e (EI T e) k p).1 = true → RX pre w n (cs ++ (aPart T e (EI T e) k p).2.2 ++ List.replicate (i - o) 2000) σ') := by
  intro k
  have fin : ∀ (kr : Int32 → Sg → Option (Int32 × Sg)) (r : Rs) i cs p σ σ1, o ≤ i → i ≤ 5 → (twC pre).length + cs.length + (i - o) ≤ p → OP σ σ1 → rg σ1 6 3 = nI r.2.1 → WK (pre.length + 1) σ1 → (r.1 = true → RX pre w n (cs ++ r.2.2) σ1) → r.2.1 ≤ e → (r.1 = true → p + r.2.2.length ≤ r.2.1) → ∃ σ', b_X2_readPart_69 (N + 8) kr (nI o) (nI i) (nI r.1.toNat) σ1 = some (nI r.1.toNat, σ') ∧ OP σ σ' ∧ rg σ' 6 3 = nI r.2.1 ∧ WK (pre.length + 1) σ' ∧ (r.1 = true → RX pre w n (cs ++ r.2.2 ++ List.replicate (i - o) 2000) σ') := by
    intro kr r i cs p σ σ1 hoi hi5 hc o1 r1 w1 x1 hre hrl
    obtain ⟨σ2, e2, o2, r2, w2, y2⟩ := x_nots (N := N + 8) (kr := kr) he hl hi5 (b := r.1) (i - o) (N + 7 - (i - o)) o (cs ++ r.2.2) r.2.1 σ1 (by omega) (by omega) r1 w1 (fun q => ⟨x1 q, by
      have := hrl q
      rw [List.length_append]
      omega⟩)
    rw [show N + 7 - (i - o) + (i - o) + 1 = N + 8 by omega] at e2
    exact ⟨σ2, e2, o1.tr o2, r2, w2, y2⟩
  have tst : ∀ (kr : Int32 → Sg → Option (Int32 × Sg)) i cs p σ, o ≤ i → i ≤ 5 → TP T e p σ → RX pre w n cs σ → (twC pre).length + cs.length + (i - o) ≤ p → p ≤ e → ∃ σ', b_X2_readPart_64 (N + 8) kr (nI o) (nI i) σ = some (nI (aTest T e p).1.toNat, σ') ∧ OP σ σ' ∧ rg σ' 6 3 = nI (aTest T e p).2.1 ∧ WK (pre.length + 1) σ' ∧ ((aTest T e p).1 = true → RX pre w n (cs ++ (aTest T e p).2.2 ++ List.replicate (i - o) 2000) σ') := by
    intro kr i cs p σ hoi hi5 h hx hc hp
    obtain ⟨σ1, e1, o1, r1, w1, x1⟩ := x_test6 (N := N) he hT hl cs p σ h hx (by omega) hp
    obtain ⟨g1, g2, g3⟩ := aTest_G (T := T) (e := e) p hp
    obtain ⟨σ2, e2, q⟩ := fin kr (aTest T e p) i cs p σ σ1 hoi hi5 hc o1 r1 w1 x1 g2 g3
    exact ⟨σ2, bd2_k e1 e2, q⟩
  induction k with
  | zero =>
    intro hkr fuel i cs p σ hoi hik h hx hc hp
    have ei : i = 5 := by omega
    subst ei
    obtain ⟨σ1, e1, q⟩ := tst kr 5 cs p σ hoi (Nat.le_refl 5) h hx hc hp
    refine ⟨σ1, ?_, q⟩
    show b_X2_readPart_2b (N + 8) kr (b_X2_readPart_2 (N + 8) kr fuel) _ _ _ = _
    unfold b_X2_readPart_2b b_X2_readPart_22
    exact if_T (of_eq_true (ile_T (Nat.le_refl 5) (by decide))) (if_T (of_eq_true (ile_T (Nat.le_refl 5) (by decide))) e1)
  | succ k ih =>
    intro hkr fuel i cs p σ hoi hik h hx hc hp
    have hi4 : i < 5 := by omega
    have e0 : aPart T e (EI T e) (k + 1) p = if cAt T e p 33 = true then ((aPart T e (EI T e) k (p + 1)).1, (aPart T e (EI T e) k (p + 1)).2.1, (aPart T e (EI T e) k (p + 1)).2.2 ++ [2000]) else if cAt T e p 40 = true then aPar T e (EI T e k (p + 1)) else aTest T e p := rfl
    rw [e0]
    by_cases h1 : cAt T e p 33 = true
    · rw [if_pos h1]
      have hlt := (cAt_lt h1).1
      have o1 := OP.pl σ (nI (p + 1))
      obtain ⟨σ2, e2, o2, r2, w2, y2⟩ := ih (fun j hj => hkr j (by omega)) fuel (i + 1) cs (p + 1) (srg σ 6 3 (nI (p + 1))) (by omega) (by omega) (h.mv o1 rfl) (hx.pl _ _) (by omega) (by omega)
      refine ⟨σ2, ?_, o1.tr o2, r2, w2, fun q => ?_⟩
      · show b_X2_readPart_2b (N + 8) kr (b_X2_readPart_2 (N + 8) kr (fuel + k + 1)) _ _ _ = _
        unfold b_X2_readPart_2b
        rw [l_1, nI_add]
        exact if_F (of_eq_false (ile_F hi4 (by decide))) (bd2_k (x_take_T (c := 33) he h h1) (if_F n10 (nm_k e2)))
      · have := y2 q
        rw [show i + 1 - o = (i - o) + 1 by omega, List.replicate_succ] at this
        show RX pre w n (cs ++ ((aPart T e (EI T e) k (p + 1)).2.2 ++ [2000]) ++ List.replicate (i - o) 2000) σ2
        rw [List.append_assoc, List.append_assoc]
        rw [List.append_assoc] at this
        exact this
    rw [if_neg h1]
    have tk1 := x_take_F (N := N + 8) (c := 33) he hp hT (by decide) h h1
    by_cases h2 : cAt T e p 40 = true
    · rw [if_pos h2]
      have hlt := (cAt_lt h2).1
      have o1 := OP.pl σ (nI (p + 1))
      obtain ⟨σ2, e2, o2, r2, w2, y2⟩ := hkr k (Nat.lt_succ_self k) cs (p + 1) (srg σ 6 3 (nI (p + 1))) (h.mv o1 rfl) (hx.pl _ _) (by omega) (by omega)
      obtain ⟨g1, g2, g3⟩ := EI_G (T := T) (e := e) k (p + 1) (by omega)
      have k5 : nI (5 - k) = nI i + 1 := by
        rw [l_1, nI_add]
        congr 1
        omega
      rw [k5] at e2
      have t2 : TP T e (EI T e k (p + 1)).2.1 σ2 := h.mv (o1.tr o2) r2
      have body : ∃ σ', b_X2_readPart_22 (N + 8) kr (nI o) (nI i) σ = some (nI (aPar T e (EI T e k (p + 1))).1.toNat, σ') ∧ OP σ σ' ∧ rg σ' 6 3 = nI (aPar T e (EI T e k (p + 1))).2.1 ∧ WK (pre.length + 1) σ' ∧ ((aPar T e (EI T e k (p + 1))).1 = true → RX pre w n (cs ++ (aPar T e (EI T e k (p + 1))).2.2 ++ List.replicate (i - o) 2000) σ') := by
        have gp := aPar_G (EI_G (T := T) (e := e) k) (p := p) (by omega)
        unfold b_X2_readPart_22 b_X2_readPart_59 b_X2_readPart_60
        unfold aPar at gp ⊢
        by_cases h3 : (EI T e k (p + 1)).1 = true
        · rw [if_pos h3] at gp ⊢
          rw [h3] at e2
          by_cases h4 : cAt T e (EI T e k (p + 1)).2.1 41 = true
          · rw [if_pos h4] at gp ⊢
            have o3 := (o1.tr o2).tr (OP.pl σ2 (nI ((EI T e k (p + 1)).2.1 + 1)))
            obtain ⟨σ4, e4, q4⟩ := fin kr (true, (EI T e k (p + 1)).2.1 + 1, (EI T e k (p + 1)).2.2) i cs p σ (srg σ2 6 3 (nI ((EI T e k (p + 1)).2.1 + 1))) hoi (by omega) hc o3 rfl (w2.pl _ _) (fun _ => (y2 h3).pl _ _) gp.2.1 gp.2.2
            exact ⟨σ4, if_F (of_eq_false (ile_F hi4 (by decide))) (bd2_k (x_take_T (c := 40) he h h2) (if_F n10 (bd2_k e2 (if_F n10 (bd2_k (x_take_T (c := 41) he t2 h4) (if_F n10 e4)))))), q4⟩
          · rw [if_neg h4] at gp ⊢
            obtain ⟨σ4, e4, q4⟩ := fin kr (false, (EI T e k (p + 1)).2.1, []) i cs p σ σ2 hoi (by omega) hc (o1.tr o2) r2 w2 (fun q => by cases q) gp.2.1 gp.2.2
            exact ⟨σ4, if_F (of_eq_false (ile_F hi4 (by decide))) (bd2_k (x_take_T (c := 40) he h h2) (if_F n10 (bd2_k e2 (if_F n10 (bd2_k (x_take_F (c := 41) he g2 hT (by decide) t2 h4) (if_T n00 e4)))))), q4⟩
        · rw [if_neg h3] at gp ⊢
          have h3' : (EI T e k (p + 1)).1 = false := bF h3
          rw [h3'] at e2
          obtain ⟨σ4, e4, q4⟩ := fin kr (false, (EI T e k (p + 1)).2.1, []) i cs p σ σ2 hoi (by omega) hc (o1.tr o2) r2 w2 (fun q => by cases q) gp.2.1 gp.2.2
          exact ⟨σ4, if_F (of_eq_false (ile_F hi4 (by decide))) (bd2_k (x_take_T (c := 40) he h h2) (if_F n10 (bd2_k e2 (if_T n00 e4)))), q4⟩
      obtain ⟨σ5, e5, q5⟩ := body
      refine ⟨σ5, ?_, q5⟩
      show b_X2_readPart_2b (N + 8) kr (b_X2_readPart_2 (N + 8) kr (fuel + k + 1)) _ _ _ = _
      unfold b_X2_readPart_2b
      exact if_F (of_eq_false (ile_F hi4 (by decide))) (bd2_k tk1 (if_T n00 e5))
    · rw [if_neg h2]
      obtain ⟨σ1, e1, q⟩ := tst kr i cs p σ hoi (by omega) h hx hc hp
      refine ⟨σ1, ?_, q⟩
      show b_X2_readPart_2b (N + 8) kr (b_X2_readPart_2 (N + 8) kr (fuel + k + 1)) _ _ _ = _
      unfold b_X2_readPart_2b b_X2_readPart_22
      exact if_F (of_eq_false (ile_F hi4 (by decide))) (bd2_k tk1 (if_T n00 (if_F (of_eq_false (ile_F hi4 (by decide))) (bd2_k (x_take_F (c := 40) he hp hT (by decide) h h2) (if_T n00 e1)))))
theorem x_partR (he : e ≤ 100) (hT : ∀ i, i < e → T i < 128) (hl : pre.length ≤ 9) {kr : Int32 → Sg → Option (Int32 × Sg)} {k : Nat} (hk : k ≤ 5) (hkr : ∀ j, j < k → Rf T e pre w n (kr (nI (5 - j))) (EI T e j)) : Rf T e pre w n (f_X2_readPart (N + 8) kr (nI (5 - k))) (aPart T e (EI T e) k) := by
  intro cs p σ h hx hc hp
  obtain ⟨σ1, e1, o1, r1, w1, y1⟩ := x_part6 (N := N) he hT hl (kr := kr) (o := 5 - k) k hkr (N + 7 - k) (5 - k) cs p σ (Nat.le_refl _) (by omega) h hx (by omega) hp
  rw [show N + 7 - k + k + 1 = N + 8 by omega] at e1
  refine ⟨σ1, e1, o1, r1, w1, fun q => ?_⟩
  have := y1 q
  rw [Nat.sub_self] at this
  show RX pre w n (cs ++ (aPart T e (EI T e) k p).2.2) σ1
  rw [show List.replicate 0 2000 = ([] : List Nat) from rfl, List.append_nil] at this
  exact this
theorem x_bothL (he : e ≤ 100) (hT : ∀ i, i < e → T i < 128) (hl : pre.length ≤ 9) {kr : Int32 → Sg → Option (Int32 × Sg)} {x : Int32} {f : Nat → Rs} (hf : Rf T e pre w n (f_X2_readPart N kr x) f) (hG : Gd T e f) : ∀ m fuel i p o cs σ, i + m = 100 → i ≤ p → TP T e p σ → RX pre w n (cs ++ o) σ → (twC pre).length + (cs ++ o).length ≤ p → p ≤ e → ∃ σ', b_X2_readBoth_12 N kr (fuel + m + 1) x (nI i) σ = some (nI (aLoop T e 38 2001 f m p o).1.toNat, σ') ∧ OP σ σ' ∧ rg σ' 6 3 = nI (aLoop T e 38 2001 f m p o).2.1 ∧ WK (pre.length + 1) σ' ∧ ((aLoop T e 38 2001 f m p o).1 = true → RX pre w n (cs ++ (aLoop T e 38 2001 f m p o).2.2) σ')
  | 0, fuel, i, p, o, cs, σ, hj, hi, h, hx, hc, hp => by
    have ei : i = 100 := by omega
    subst ei
    refine ⟨σ, ?_, OP.rf σ, h.2.1, hx.wk (by omega), fun _ => hx⟩
    show b_X2_readBoth_12b N kr (b_X2_readBoth_12 N kr fuel) _ _ _ = _
    unfold b_X2_readBoth_12b
    exact if_T (of_eq_true (ile_T (Nat.le_refl 100) (by decide))) rfl
  | m + 1, fuel, i, p, o, cs, σ, hj, hi, h, hx, hc, hp => by
    have hi100 : i < 100 := by omega
    have e0 : aLoop T e 38 2001 f (m + 1) p o = if cAt T e p 38 = true then (if (f (p + 1)).1 = true then aLoop T e 38 2001 f m (f (p + 1)).2.1 (o ++ (f (p + 1)).2.2 ++ [2001]) else (false, (f (p + 1)).2.1, [])) else (true, p, o) := rfl
    rw [e0]
    by_cases h1 : cAt T e p 38 = true
    · rw [if_pos h1]
      have hlt := (cAt_lt h1).1
      have o1 := OP.pl σ (nI (p + 1))
      obtain ⟨σ2, e2, o2, r2, w2, y2⟩ := hf (cs ++ o) (p + 1) (srg σ 6 3 (nI (p + 1))) (h.mv o1 rfl) (hx.pl _ _) (by omega) (by omega)
      obtain ⟨g1, g2, g3⟩ := hG (p + 1) (by omega)
      by_cases h2 : (f (p + 1)).1 = true
      · rw [if_pos h2]
        rw [h2] at e2
        have g4 := g3 h2
        obtain ⟨σ3, e3, o3, y3, r3⟩ := x_put (N := N) (y2 h2) hl (by rw [List.length_append]; omega) 2001 (v := -2) rfl
        have t3 : TP T e (f (p + 1)).2.1 σ3 := h.mv ((o1.tr o2).tr o3) ((r3 3).trans r2)
        obtain ⟨σ4, e4, o4, r4, w4, y4⟩ := x_bothL he hT hl hf hG m fuel (i + 1) (f (p + 1)).2.1 (o ++ (f (p + 1)).2.2 ++ [2001]) cs σ3 (by omega) (by omega) t3 (by
          rw [← List.append_assoc, ← List.append_assoc]
          exact y3) (by
          rw [List.length_append] at hc
          rw [List.length_append, List.length_append, List.length_append]
          show (twC pre).length + (cs.length + (o.length + (f (p + 1)).2.2.length + 1)) ≤ _
          omega) g2
        refine ⟨σ4, ?_, ((o1.tr o2).tr o3).tr o4, r4, w4, y4⟩
        show b_X2_readBoth_12b N kr (b_X2_readBoth_12 N kr (fuel + m + 1)) _ _ _ = _
        unfold b_X2_readBoth_12b
        rw [l_1, nI_add]
        exact if_F (of_eq_false (ile_F hi100 (by decide))) (bd2_k (x_take_T (c := 38) he h h1) (if_F n10 (bd2_k e2 (if_F n10 (bd_k e3 (nm_k e4))))))
      · rw [if_neg h2]
        have h2' : (f (p + 1)).1 = false := bF h2
        rw [h2'] at e2
        refine ⟨σ2, ?_, o1.tr o2, r2, w2, fun q => by cases q⟩
        show b_X2_readBoth_12b N kr (b_X2_readBoth_12 N kr (fuel + m + 1)) _ _ _ = _
        unfold b_X2_readBoth_12b
        exact if_F (of_eq_false (ile_F hi100 (by decide))) (bd2_k (x_take_T (c := 38) he h h1) (if_F n10 (bd2_k e2 (if_T n00 rfl))))
    · rw [if_neg h1]
      refine ⟨σ, ?_, OP.rf σ, h.2.1, hx.wk (by omega), fun _ => hx⟩
      show b_X2_readBoth_12b N kr (b_X2_readBoth_12 N kr (fuel + m + 1)) _ _ _ = _
      unfold b_X2_readBoth_12b
      exact if_F (of_eq_false (ile_F hi100 (by decide))) (bd2_k (x_take_F (c := 38) he hp hT (by decide) h h1) (if_T n00 rfl))
theorem x_eithL (he : e ≤ 100) (hT : ∀ i, i < e → T i < 128) (hl : pre.length ≤ 9) {kr : Int32 → Sg → Option (Int32 × Sg)} {x : Int32} {f : Nat → Rs} (hf : Rf T e pre w n (f_X2_readBoth N kr x) f) (hG : Gd T e f) : ∀ m fuel i p o cs σ, i + m = 100 → i ≤ p → TP T e p σ → RX pre w n (cs ++ o) σ → (twC pre).length + (cs ++ o).length ≤ p → p ≤ e → ∃ σ', b_X2_readEither_12 N kr (fuel + m + 1) x (nI i) σ = some (nI (aLoop T e 124 2002 f m p o).1.toNat, σ') ∧ OP σ σ' ∧ rg σ' 6 3 = nI (aLoop T e 124 2002 f m p o).2.1 ∧ WK (pre.length + 1) σ' ∧ ((aLoop T e 124 2002 f m p o).1 = true → RX pre w n (cs ++ (aLoop T e 124 2002 f m p o).2.2) σ')
  | 0, fuel, i, p, o, cs, σ, hj, hi, h, hx, hc, hp => by
    have ei : i = 100 := by omega
    subst ei
    refine ⟨σ, ?_, OP.rf σ, h.2.1, hx.wk (by omega), fun _ => hx⟩
    show b_X2_readEither_12b N kr (b_X2_readEither_12 N kr fuel) _ _ _ = _
    unfold b_X2_readEither_12b
    exact if_T (of_eq_true (ile_T (Nat.le_refl 100) (by decide))) rfl
  | m + 1, fuel, i, p, o, cs, σ, hj, hi, h, hx, hc, hp => by
    have hi100 : i < 100 := by omega
    have e0 : aLoop T e 124 2002 f (m + 1) p o = if cAt T e p 124 = true then (if (f (p + 1)).1 = true then aLoop T e 124 2002 f m (f (p + 1)).2.1 (o ++ (f (p + 1)).2.2 ++ [2002]) else (false, (f (p + 1)).2.1, [])) else (true, p, o) := rfl
    rw [e0]
    by_cases h1 : cAt T e p 124 = true
    · rw [if_pos h1]
      have hlt := (cAt_lt h1).1
      have o1 := OP.pl σ (nI (p + 1))
      obtain ⟨σ2, e2, o2, r2, w2, y2⟩ := hf (cs ++ o) (p + 1) (srg σ 6 3 (nI (p + 1))) (h.mv o1 rfl) (hx.pl _ _) (by omega) (by omega)
      obtain ⟨g1, g2, g3⟩ := hG (p + 1) (by omega)
      by_cases h2 : (f (p + 1)).1 = true
      · rw [if_pos h2]
        rw [h2] at e2
        have g4 := g3 h2
        obtain ⟨σ3, e3, o3, y3, r3⟩ := x_put (N := N) (y2 h2) hl (by rw [List.length_append]; omega) 2002 (v := -3) rfl
        have t3 : TP T e (f (p + 1)).2.1 σ3 := h.mv ((o1.tr o2).tr o3) ((r3 3).trans r2)
        obtain ⟨σ4, e4, o4, r4, w4, y4⟩ := x_eithL he hT hl hf hG m fuel (i + 1) (f (p + 1)).2.1 (o ++ (f (p + 1)).2.2 ++ [2002]) cs σ3 (by omega) (by omega) t3 (by
          rw [← List.append_assoc, ← List.append_assoc]
          exact y3) (by
          rw [List.length_append] at hc
          rw [List.length_append, List.length_append, List.length_append]
          show (twC pre).length + (cs.length + (o.length + (f (p + 1)).2.2.length + 1)) ≤ _
          omega) g2
        refine ⟨σ4, ?_, ((o1.tr o2).tr o3).tr o4, r4, w4, y4⟩
        show b_X2_readEither_12b N kr (b_X2_readEither_12 N kr (fuel + m + 1)) _ _ _ = _
        unfold b_X2_readEither_12b
        rw [l_1, nI_add]
        exact if_F (of_eq_false (ile_F hi100 (by decide))) (bd2_k (x_take_T (c := 124) he h h1) (if_F n10 (bd2_k e2 (if_F n10 (bd_k e3 (nm_k e4))))))
      · rw [if_neg h2]
        have h2' : (f (p + 1)).1 = false := bF h2
        rw [h2'] at e2
        refine ⟨σ2, ?_, o1.tr o2, r2, w2, fun q => by cases q⟩
        show b_X2_readEither_12b N kr (b_X2_readEither_12 N kr (fuel + m + 1)) _ _ _ = _
        unfold b_X2_readEither_12b
        exact if_F (of_eq_false (ile_F hi100 (by decide))) (bd2_k (x_take_T (c := 124) he h h1) (if_F n10 (bd2_k e2 (if_T n00 rfl))))
    · rw [if_neg h1]
      refine ⟨σ, ?_, OP.rf σ, h.2.1, hx.wk (by omega), fun _ => hx⟩
      show b_X2_readEither_12b N kr (b_X2_readEither_12 N kr (fuel + m + 1)) _ _ _ = _
      unfold b_X2_readEither_12b
      exact if_F (of_eq_false (ile_F hi100 (by decide))) (bd2_k (x_take_F (c := 124) he hp hT (by decide) h h1) (if_T n00 rfl))
theorem x_bothR (he : e ≤ 100) (hT : ∀ i, i < e → T i < 128) (hl : pre.length ≤ 9) {kr : Int32 → Sg → Option (Int32 × Sg)} {x : Int32} {f : Nat → Rs} (hf : Rf T e pre w n (f_X2_readPart (N + 200) kr x) f) (hG : Gd T e f) : Rf T e pre w n (f_X2_readBoth (N + 200) kr x) (aSeq T e 38 2001 f) := by
  intro cs p σ h hx hc hp
  obtain ⟨σ1, e1, o1, r1, w1, y1⟩ := hf cs p σ h hx hc hp
  obtain ⟨g1, g2, g3⟩ := hG p hp
  unfold f_X2_readBoth aSeq
  by_cases h1 : (f p).1 = true
  · rw [if_pos h1]
    rw [h1] at e1
    have := g3 h1
    obtain ⟨σ2, e2, o2, r2, w2, y2⟩ := x_bothL (N := N + 200) he hT hl hf hG 100 (N + 99) 0 (f p).2.1 (f p).2.2 cs σ1 (by omega) (Nat.zero_le _) (h.mv o1 r1) (y1 h1) (by rw [List.length_append]; omega) g2
    exact ⟨σ2, bd2_k e1 (if_F n10 e2), o1.tr o2, r2, w2, y2⟩
  · rw [if_neg h1]
    have h1' : (f p).1 = false := bF h1
    rw [h1'] at e1
    exact ⟨σ1, bd2_k e1 (if_T n00 rfl), o1, r1, w1, fun q => by cases q⟩
theorem x_eithR (he : e ≤ 100) (hT : ∀ i, i < e → T i < 128) (hl : pre.length ≤ 9) {kr : Int32 → Sg → Option (Int32 × Sg)} {x : Int32} {f : Nat → Rs} (hf : Rf T e pre w n (f_X2_readBoth (N + 200) kr x) f) (hG : Gd T e f) : Rf T e pre w n (f_X2_readEither_b (N + 200) kr x) (aSeq T e 124 2002 f) := by
  intro cs p σ h hx hc hp
  obtain ⟨σ1, e1, o1, r1, w1, y1⟩ := hf cs p σ h hx hc hp
  obtain ⟨g1, g2, g3⟩ := hG p hp
  unfold f_X2_readEither_b aSeq
  by_cases h1 : (f p).1 = true
  · rw [if_pos h1]
    rw [h1] at e1
    have := g3 h1
    obtain ⟨σ2, e2, o2, r2, w2, y2⟩ := x_eithL (N := N + 200) he hT hl hf hG 100 (N + 99) 0 (f p).2.1 (f p).2.2 cs σ1 (by omega) (Nat.zero_le _) (h.mv o1 r1) (y1 h1) (by rw [List.length_append]; omega) g2
    exact ⟨σ2, bd2_k e1 (if_F n10 e2), o1.tr o2, r2, w2, y2⟩
  · rw [if_neg h1]
    have h1' : (f p).1 = false := bF h1
    rw [h1'] at e1
    exact ⟨σ1, bd2_k e1 (if_T n00 rfl), o1, r1, w1, fun q => by cases q⟩
theorem x_EI6 (he : e ≤ 100) (hT : ∀ i, i < e → T i < 128) (hl : pre.length ≤ 9) : ∀ D k, k < D → k ≤ 5 → Rf T e pre w n (f_X2_readEither (N + 200) D (nI (5 - k))) (EI T e k)
  | 0, k, h, _ => absurd h (Nat.not_lt_zero k)
  | D + 1, k, h, hk => by
    have hp := x_partR (N := N + 192) (w := w) (n := n) he hT hl (kr := f_X2_readEither (N + 200) D) hk (fun j hj => x_EI6 he hT hl D j (by omega) (by omega))
    have hG1 := aPart_G (T := T) (e := e) (kr := EI T e) (fun k => EI_G k) k
    have hb := x_bothR (N := N) he hT hl hp hG1
    have hei := x_eithR (N := N) he hT hl hb (aSeq_G hG1)
    rw [EI_eq]
    exact hei
end RE
