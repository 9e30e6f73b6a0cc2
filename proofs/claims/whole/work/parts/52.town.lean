/-! towns: the model's clauses; town -/
theorem x_spW_A {N e act : Nat} {T : Nat → Nat} : ∀ (l : List Nat) (fuel j p : Nat) (σ : Sg), j + l.length = 6 → (∀ i, i < l.length → am_chr 7 (j + i) = nI (l.getD i 0)) → WR T e act p σ → ∃ σ', b_X7_spells_2 N (fuel + l.length + 1) (nI j) σ = some σ' ∧ FM act σ σ' ∧ WR T e act p σ'
  | [], fuel, j, p, σ, hj, hc, h => by
    have ej : j = 6 := hj
    subst ej
    refine ⟨σ, ?_, FM.rf act σ, h⟩
    show b_X7_spells_2b N (b_X7_spells_2 N fuel) _ _ = _
    unfold b_X7_spells_2b
    exact if_T (by decide) rfl
  | c :: l, fuel, j, p, σ, hj, hc, h => by
    have hlen : (c :: l).length = l.length + 1 := rfl
    rw [hlen] at hj hc
    have hc0 := hc 0 (by omega)
    obtain ⟨σ1, e1, f1, w1⟩ := x_mustW (N := N) (c := c) (T := T) (e := e) (act := act) p σ h
    obtain ⟨σ2, e2, f2, w2⟩ := x_spW_A (N := N) l fuel (j + 1) p σ1 (by omega) (fun i hi => by
      have := hc (i + 1) (by omega)
      rw [show j + 1 + i = j + (i + 1) by omega]
      exact this) w1
    refine ⟨σ2, ?_, f1.tr f2, w2⟩
    show b_X7_spells_2b N (b_X7_spells_2 N (fuel + l.length + 1)) _ _ = _
    unfold b_X7_spells_2b
    refine if_F (of_eq_false (ile_F (by omega : j < 6) (by decide))) (gd_k (inb_nI (by omega) (by decide)) ?_)
    rw [nI_clamp (by omega)]
    rw [Nat.add_zero] at hc0
    rw [hc0, l_1, nI_add]
    exact bd_k e1 (nm_k e2)
theorem x_sp_A {N e act cnt opn : Nat} {T : Nat → Nat} (he : e ≤ 100) (hT : ∀ i, i < e → T i < 128) (hact : act ≤ 4) : ∀ (l : List Nat) (fuel j p : Nat) (σ : Sg), j + l.length = 6 → (∀ i, i < l.length → am_chr 7 (j + i) = nI (l.getD i 0) ∧ l.getD i 0 < 128) → MS T e act p cnt opn σ → p ≤ e → Mo T e act cnt opn σ (b_X7_spells_2 N (fuel + l.length + 1) (nI j) σ) (aLit T e l p).1 (aLit T e l p).2 []
  | [], fuel, j, p, σ, hj, hc, h, hp => by
    have ej : j = 6 := hj
    subst ej
    refine ⟨σ, ?_, FM.rf act σ, Or.inl ⟨rfl, h, EM.nil rfl⟩⟩
    show b_X7_spells_2b N (b_X7_spells_2 N fuel) _ _ = _
    unfold b_X7_spells_2b
    exact if_T (by decide) rfl
  | c :: l, fuel, j, p, σ, hj, hc, h, hp => by
    have hlen : (c :: l).length = l.length + 1 := rfl
    rw [hlen] at hj hc
    have hc0 := hc 0 (by omega)
    rw [Nat.add_zero] at hc0
    have hc1 : ∀ i, i < l.length → am_chr 7 (j + 1 + i) = nI (l.getD i 0) ∧ l.getD i 0 < 128 := fun i hi => by
      have := hc (i + 1) (by omega)
      rw [show j + 1 + i = j + (i + 1) by omega]
      exact this
    have go : ∀ σ1 r, f_X7_must N (nI c) σ = some σ1 → b_X7_spells_2 N (fuel + l.length + 1) (nI (j + 1)) σ1 = r → b_X7_spells_2 N (fuel + (c :: l).length + 1) (nI j) σ = r := by
      intro σ1 r e1 hr
      show b_X7_spells_2b N (b_X7_spells_2 N (fuel + l.length + 1)) _ _ = _
      unfold b_X7_spells_2b
      refine if_F (of_eq_false (ile_F (by omega : j < 6) (by decide))) (gd_k (inb_nI (by omega) (by decide)) ?_)
      rw [nI_clamp (by omega), hc0.1, l_1, nI_add]
      exact bd_k e1 (nm_k hr)
    obtain ⟨σ1, e1, f1, h1⟩ := x_must (N := N) (c := c) he hp hT hact hc0.2 h
    have el : aLit T e (c :: l) p = if cAt T e p c = true then aLit T e l (p + 1) else (false, p) := rfl
    rw [el]
    rcases h1 with ⟨b1, b2, b3⟩ | ⟨b1, b2⟩
    · rw [if_pos b1] at b2 ⊢
      have hlt := (cAt_lt b1).1
      have r := x_sp_A (N := N) he hT hact l fuel (j + 1) (p + 1) σ1 (by omega) hc1 b2 hlt
      obtain ⟨σ2, e2, f2, h2⟩ := r
      refine ⟨σ2, go σ1 _ e1 e2, f1.tr f2, ?_⟩
      rcases h2 with ⟨c1, c2, c3⟩ | h2
      · exact Or.inl ⟨c1, c2, b3.app c3⟩
      · exact Or.inr h2
    · rw [if_neg (by rw [b1]; decide)] at b2 ⊢
      obtain ⟨σ2, e2, f2, w2⟩ := x_spW_A (N := N) l fuel (j + 1) p σ1 (by omega) (fun i hi => (hc1 i hi).1) b2
      exact Mo.wr ⟨σ2, go σ1 _ e1 e2, f1.tr f2, w2⟩
theorem x_much_A {N e act cnt p : Nat} {T : Nat → Nat} {σ : Sg} (he : e ≤ 100) (hT : ∀ i, i < e → T i < 128) (hact : act ≤ 4) (h : MS T e act p cnt 0 σ) (hcp : cnt ≤ p) (hp : p ≤ e) (hh : aHead T e p = aRest T e 2 [108, 108, 111, 119, 32] (p + 1)) (hc0 : cAt T e p 97 = true) : Mo T e act cnt 0 σ (f_X7_much (N + 200) (-400 : Int32) σ) (aCl T e p).1 (aCl T e p).2.1 ((aCl T e p).2.2.2.2.map cm1 ++ [wdM (aCl T e p).2.2.1 - nI (aCl T e p).2.2.2.1]) := by
  have chars : ∀ i, i < 1 + 5 → am_chr 7 (0 + i) = nI (([97] ++ [108, 108, 111, 119, 32] : List Nat).getD i 0) ∧ ([97] ++ [108, 108, 111, 119, 32] : List Nat).getD i 0 < 128 := by decide
  have el : aLit T e (97 :: [108, 108, 111, 119, 32]) p = aLit T e [108, 108, 111, 119, 32] (p + 1) := if_pos hc0
  have r1 := x_sp_A (N := N + 200) he hT hact (97 :: [108, 108, 111, 119, 32]) (N + 199 - 6) 0 p σ rfl chars h hp
  rw [show N + 199 - 6 + (97 :: [108, 108, 111, 119, 32] : List Nat).length + 1 = N + 200 from by show N + 199 - 6 + 6 + 1 = N + 200; omega, el] at r1
  obtain ⟨l1, l2⟩ := aLit_P (T := T) (e := e) [108, 108, 111, 119, 32] (p + 1) (by have := (cAt_lt hc0).1; omega)
  have hWs : Wf T e act (f_X7_some (N + 200) (f_X7_factor (N + 200) 20)) := x_someW (N := N + 192) x_factorW
  have tail : ∀ (v : Int32) q σ17, WR T e act q σ17 → ∃ σ24, (bd (f_X7_emits (N + 200) ((-400 : Int32) - v) σ17) fun σ24 => some σ24) = some σ24 ∧ FM act σ17 σ24 ∧ WR T e act q σ24 := by
    intro v q σ17 w
    obtain ⟨s, e1, f1, w1⟩ := x_emitW (N := N + 200) (T := T) (e := e) (act := act) ((-400 : Int32) - v) q σ17 w
    exact ⟨s, bd_k e1 rfl, f1, w1⟩
  have tail2 : ∀ (v : Int32) q σ13, WR T e act q σ13 → ∃ σ24, (bd (f_X7_some (N + 200) (f_X7_factor (N + 200) 20) σ13) fun σ17 => bd (f_X7_emits (N + 200) ((-400 : Int32) - v) σ17) fun σ24 => some σ24) = some σ24 ∧ FM act σ13 σ24 ∧ WR T e act q σ24 := by
    intro v q σ13 w
    obtain ⟨s, e1, f1, w1⟩ := hWs q σ13 w
    obtain ⟨s2, e2, f2, w2⟩ := tail v q s w1
    exact ⟨s2, bd_k e1 e2, f1.tr f2, w2⟩
  have tail3 : ∀ (v : Int32) q σ6, WR T e act q σ6 → ∃ σ24, (bd (f_X7_must (N + 200) (32 : Int32) σ6) fun σ13 => bd (f_X7_some (N + 200) (f_X7_factor (N + 200) 20) σ13) fun σ17 => bd (f_X7_emits (N + 200) ((-400 : Int32) - v) σ17) fun σ24 => some σ24) = some σ24 ∧ FM act σ6 σ24 ∧ WR T e act q σ24 := by
    intro v q σ6 w
    obtain ⟨s, e1, f1, w1⟩ := x_mustW (N := N + 200) (c := 32) (T := T) (e := e) (act := act) q σ6 w
    obtain ⟨s2, e2, f2, w2⟩ := tail2 v q s w1
    exact ⟨s2, bd_k e1 e2, f1.tr f2, w2⟩
  obtain ⟨σ2, e2, f2, h2⟩ := r1
  have er : aRest T e 2 [108, 108, 111, 119, 32] (p + 1) = if (aLit T e [108, 108, 111, 119, 32] (p + 1)).1 = true then (if (aNum T e (aLit T e [108, 108, 111, 119, 32] (p + 1)).2).1 = true then (if cAt T e (aNum T e (aLit T e [108, 108, 111, 119, 32] (p + 1)).2).2.1 32 = true then (true, (aNum T e (aLit T e [108, 108, 111, 119, 32] (p + 1)).2).2.1 + 1, 2, (aNum T e (aLit T e [108, 108, 111, 119, 32] (p + 1)).2).2.2) else (false, (aNum T e (aLit T e [108, 108, 111, 119, 32] (p + 1)).2).2.1, 0, 0)) else (false, (aNum T e (aLit T e [108, 108, 111, 119, 32] (p + 1)).2).2.1, 0, 0)) else (false, (aLit T e [108, 108, 111, 119, 32] (p + 1)).2, 0, 0) := rfl
  unfold f_X7_much
  rcases h2 with ⟨b1, b2, b3⟩ | ⟨b1, b2⟩
  · obtain ⟨v, σ6, e6, f6, h6⟩ := x_fig (N := N + 192) he l2 hT hact b2
    obtain ⟨n1, n2, n3⟩ := aNum_P (T := T) (e := e) l2
    rcases h6 with ⟨c1, c2, c3, c4⟩ | ⟨c1, c2⟩
    · have n4 := n3 c1
      obtain ⟨σ13, e13, f13, h13⟩ := x_must (N := N + 200) (c := 32) he n2 hT hact (by decide) c3
      rcases h13 with ⟨d1, d2, d3⟩ | ⟨d1, d2⟩
      · have er2 : aHead T e p = (true, (aNum T e (aLit T e [108, 108, 111, 119, 32] (p + 1)).2).2.1 + 1, 2, (aNum T e (aLit T e [108, 108, 111, 119, 32] (p + 1)).2).2.2) := hh.trans (er.trans ((if_pos b1).trans ((if_pos c1).trans (if_pos d1))))
        rw [if_pos d1] at d2
        generalize aNum T e (aLit T e [108, 108, 111, 119, 32] (p + 1)).2 = M at *
        have hlt : M.2.1 + 1 ≤ e := (cAt_lt d1).1
        have ec : aCl T e p = ((EI T e 5 (M.2.1 + 1)).1, (EI T e 5 (M.2.1 + 1)).2.1, (2, M.2.2, (EI T e 5 (M.2.1 + 1)).2.2)) := by
          unfold aCl
          rw [er2]
          rfl
        rw [ec]
        obtain ⟨σ17, e17, f17, h17⟩ := x_EI7 (N := N) (k := 5) he hT hact (by decide) (M.2.1 + 1) cnt σ13 d2 (by omega) hlt
        obtain ⟨g1, g2, g3⟩ := EI_G (T := T) (e := e) 5 (M.2.1 + 1) hlt
        dsimp only
        generalize EI T e 5 (M.2.1 + 1) = R at *
        rcases h17 with ⟨k1, k2, k3⟩ | ⟨k1, k2⟩
        · have g4 := g3 k1
          rw [List.length_map] at k2
          obtain ⟨σ24, e24, f24, h24⟩ := x_emit (N := N + 200) hact (by omega) ((-400 : Int32) - v) k2 he
          rcases h24 with ⟨-, u1, u2⟩ | ⟨u1, -⟩
          · refine ⟨σ24, bd_k e2 (bd2_k e6 (bd_k e13 (bd_k e17 (bd_k e24 rfl)))), (((f2.tr f6).tr f13).tr f17).tr f24, Or.inl ⟨k1, ?_, ?_⟩⟩
            · have hl1 : (R.2.2.map cm1 ++ [wdM 2 - nI M.2.2]).length = R.2.2.length + 1 := by rw [List.length_append, List.length_map]; rfl
              rw [hl1, ← Nat.add_assoc]
              exact u1
            · have q1 : EM act cnt [] σ σ13 := EM.app (b3.eq c4) d3
              have q2 := EM.app q1 k3
              have q3 := EM.app (l2 := [(-400 : Int32) - v]) q2 (by
                rw [List.nil_append, List.length_map]
                exact u2)
              rw [c2] at q3
              exact q3
          · cases u1
        · obtain ⟨σ24, e24, f24, w24⟩ := tail v _ σ17 k2
          exact ⟨σ24, bd_k e2 (bd2_k e6 (bd_k e13 (bd_k e17 e24))), (((f2.tr f6).tr f13).tr f17).tr f24, Or.inr ⟨k1, w24⟩⟩
      · have er2 : aHead T e p = (false, (aNum T e (aLit T e [108, 108, 111, 119, 32] (p + 1)).2).2.1, 0, 0) := hh.trans (er.trans ((if_pos b1).trans ((if_pos c1).trans (if_neg (by rw [d1]; decide)))))
        have ec : aCl T e p = (false, (aNum T e (aLit T e [108, 108, 111, 119, 32] (p + 1)).2).2.1, (0, 0, [])) := by
          unfold aCl
          rw [er2]
          rfl
        rw [ec]
        rw [if_neg (by rw [d1]; decide)] at d2
        obtain ⟨σ24, e24, f24, w24⟩ := tail2 v _ σ13 d2
        exact ⟨σ24, bd_k e2 (bd2_k e6 (bd_k e13 e24)), ((f2.tr f6).tr f13).tr f24, Or.inr ⟨rfl, w24⟩⟩
    · have er2 : aHead T e p = (false, (aNum T e (aLit T e [108, 108, 111, 119, 32] (p + 1)).2).2.1, 0, 0) := hh.trans (er.trans ((if_pos b1).trans (if_neg (by rw [c1]; decide))))
      have ec : aCl T e p = (false, (aNum T e (aLit T e [108, 108, 111, 119, 32] (p + 1)).2).2.1, (0, 0, [])) := by
        unfold aCl
        rw [er2]
        rfl
      rw [ec]
      obtain ⟨σ24, e24, f24, w24⟩ := tail3 v _ σ6 c2
      exact ⟨σ24, bd_k e2 (bd2_k e6 e24), (f2.tr f6).tr f24, Or.inr ⟨rfl, w24⟩⟩
  · have er2 : aHead T e p = (false, (aLit T e [108, 108, 111, 119, 32] (p + 1)).2, 0, 0) := hh.trans (er.trans (if_neg (by rw [b1]; decide)))
    have ec : aCl T e p = (false, (aLit T e [108, 108, 111, 119, 32] (p + 1)).2, (0, 0, [])) := by
      unfold aCl
      rw [er2]
      rfl
    rw [ec]
    obtain ⟨v, σ6, e6, f6, w6⟩ := x_figW (N := N + 192) b2
    obtain ⟨σ24, e24, f24, w24⟩ := tail3 v _ σ6 w6
    exact ⟨σ24, bd_k e2 (bd2_k e6 e24), (f2.tr f6).tr f24, Or.inr ⟨rfl, w24⟩⟩

theorem x_spW_F {N e act : Nat} {T : Nat → Nat} : ∀ (l : List Nat) (fuel j p : Nat) (σ : Sg), j + l.length = 5 → (∀ i, i < l.length → am_chr 5 (j + i) = nI (l.getD i 0)) → WR T e act p σ → ∃ σ', b_X7_spells_v1_2 N (fuel + l.length + 1) (nI j) σ = some σ' ∧ FM act σ σ' ∧ WR T e act p σ'
  | [], fuel, j, p, σ, hj, hc, h => by
    have ej : j = 5 := hj
    subst ej
    refine ⟨σ, ?_, FM.rf act σ, h⟩
    show b_X7_spells_v1_2b N (b_X7_spells_v1_2 N fuel) _ _ = _
    unfold b_X7_spells_v1_2b
    exact if_T (by decide) rfl
  | c :: l, fuel, j, p, σ, hj, hc, h => by
    have hlen : (c :: l).length = l.length + 1 := rfl
    rw [hlen] at hj hc
    have hc0 := hc 0 (by omega)
    obtain ⟨σ1, e1, f1, w1⟩ := x_mustW (N := N) (c := c) (T := T) (e := e) (act := act) p σ h
    obtain ⟨σ2, e2, f2, w2⟩ := x_spW_F (N := N) l fuel (j + 1) p σ1 (by omega) (fun i hi => by
      have := hc (i + 1) (by omega)
      rw [show j + 1 + i = j + (i + 1) by omega]
      exact this) w1
    refine ⟨σ2, ?_, f1.tr f2, w2⟩
    show b_X7_spells_v1_2b N (b_X7_spells_v1_2 N (fuel + l.length + 1)) _ _ = _
    unfold b_X7_spells_v1_2b
    refine if_F (of_eq_false (ile_F (by omega : j < 5) (by decide))) (gd_k (inb_nI (by omega) (by decide)) ?_)
    rw [nI_clamp (by omega)]
    rw [Nat.add_zero] at hc0
    rw [hc0, l_1, nI_add]
    exact bd_k e1 (nm_k e2)
theorem x_sp_F {N e act cnt opn : Nat} {T : Nat → Nat} (he : e ≤ 100) (hT : ∀ i, i < e → T i < 128) (hact : act ≤ 4) : ∀ (l : List Nat) (fuel j p : Nat) (σ : Sg), j + l.length = 5 → (∀ i, i < l.length → am_chr 5 (j + i) = nI (l.getD i 0) ∧ l.getD i 0 < 128) → MS T e act p cnt opn σ → p ≤ e → Mo T e act cnt opn σ (b_X7_spells_v1_2 N (fuel + l.length + 1) (nI j) σ) (aLit T e l p).1 (aLit T e l p).2 []
  | [], fuel, j, p, σ, hj, hc, h, hp => by
    have ej : j = 5 := hj
    subst ej
    refine ⟨σ, ?_, FM.rf act σ, Or.inl ⟨rfl, h, EM.nil rfl⟩⟩
    show b_X7_spells_v1_2b N (b_X7_spells_v1_2 N fuel) _ _ = _
    unfold b_X7_spells_v1_2b
    exact if_T (by decide) rfl
  | c :: l, fuel, j, p, σ, hj, hc, h, hp => by
    have hlen : (c :: l).length = l.length + 1 := rfl
    rw [hlen] at hj hc
    have hc0 := hc 0 (by omega)
    rw [Nat.add_zero] at hc0
    have hc1 : ∀ i, i < l.length → am_chr 5 (j + 1 + i) = nI (l.getD i 0) ∧ l.getD i 0 < 128 := fun i hi => by
      have := hc (i + 1) (by omega)
      rw [show j + 1 + i = j + (i + 1) by omega]
      exact this
    have go : ∀ σ1 r, f_X7_must N (nI c) σ = some σ1 → b_X7_spells_v1_2 N (fuel + l.length + 1) (nI (j + 1)) σ1 = r → b_X7_spells_v1_2 N (fuel + (c :: l).length + 1) (nI j) σ = r := by
      intro σ1 r e1 hr
      show b_X7_spells_v1_2b N (b_X7_spells_v1_2 N (fuel + l.length + 1)) _ _ = _
      unfold b_X7_spells_v1_2b
      refine if_F (of_eq_false (ile_F (by omega : j < 5) (by decide))) (gd_k (inb_nI (by omega) (by decide)) ?_)
      rw [nI_clamp (by omega), hc0.1, l_1, nI_add]
      exact bd_k e1 (nm_k hr)
    obtain ⟨σ1, e1, f1, h1⟩ := x_must (N := N) (c := c) he hp hT hact hc0.2 h
    have el : aLit T e (c :: l) p = if cAt T e p c = true then aLit T e l (p + 1) else (false, p) := rfl
    rw [el]
    rcases h1 with ⟨b1, b2, b3⟩ | ⟨b1, b2⟩
    · rw [if_pos b1] at b2 ⊢
      have hlt := (cAt_lt b1).1
      have r := x_sp_F (N := N) he hT hact l fuel (j + 1) (p + 1) σ1 (by omega) hc1 b2 hlt
      obtain ⟨σ2, e2, f2, h2⟩ := r
      refine ⟨σ2, go σ1 _ e1 e2, f1.tr f2, ?_⟩
      rcases h2 with ⟨c1, c2, c3⟩ | h2
      · exact Or.inl ⟨c1, c2, b3.app c3⟩
      · exact Or.inr h2
    · rw [if_neg (by rw [b1]; decide)] at b2 ⊢
      obtain ⟨σ2, e2, f2, w2⟩ := x_spW_F (N := N) l fuel (j + 1) p σ1 (by omega) (fun i hi => (hc1 i hi).1) b2
      exact Mo.wr ⟨σ2, go σ1 _ e1 e2, f1.tr f2, w2⟩
theorem x_much_F {N e act cnt p : Nat} {T : Nat → Nat} {σ : Sg} (he : e ≤ 100) (hT : ∀ i, i < e → T i < 128) (hact : act ≤ 4) (h : MS T e act p cnt 0 σ) (hcp : cnt ≤ p) (hp : p ≤ e) (hh : aHead T e p = aRest T e 0 [105, 110, 101, 32] (p + 1)) (hc0 : cAt T e p 102 = true) : Mo T e act cnt 0 σ (f_X7_much_v1 (N + 200) (-10 : Int32) σ) (aCl T e p).1 (aCl T e p).2.1 ((aCl T e p).2.2.2.2.map cm1 ++ [wdM (aCl T e p).2.2.1 - nI (aCl T e p).2.2.2.1]) := by
  have chars : ∀ i, i < 1 + 4 → am_chr 5 (0 + i) = nI (([102] ++ [105, 110, 101, 32] : List Nat).getD i 0) ∧ ([102] ++ [105, 110, 101, 32] : List Nat).getD i 0 < 128 := by decide
  have el : aLit T e (102 :: [105, 110, 101, 32]) p = aLit T e [105, 110, 101, 32] (p + 1) := if_pos hc0
  have r1 := x_sp_F (N := N + 200) he hT hact (102 :: [105, 110, 101, 32]) (N + 199 - 5) 0 p σ rfl chars h hp
  rw [show N + 199 - 5 + (102 :: [105, 110, 101, 32] : List Nat).length + 1 = N + 200 from by show N + 199 - 5 + 5 + 1 = N + 200; omega, el] at r1
  obtain ⟨l1, l2⟩ := aLit_P (T := T) (e := e) [105, 110, 101, 32] (p + 1) (by have := (cAt_lt hc0).1; omega)
  have hWs : Wf T e act (f_X7_some (N + 200) (f_X7_factor (N + 200) 20)) := x_someW (N := N + 192) x_factorW
  have tail : ∀ (v : Int32) q σ17, WR T e act q σ17 → ∃ σ24, (bd (f_X7_emits (N + 200) ((-10 : Int32) - v) σ17) fun σ24 => some σ24) = some σ24 ∧ FM act σ17 σ24 ∧ WR T e act q σ24 := by
    intro v q σ17 w
    obtain ⟨s, e1, f1, w1⟩ := x_emitW (N := N + 200) (T := T) (e := e) (act := act) ((-10 : Int32) - v) q σ17 w
    exact ⟨s, bd_k e1 rfl, f1, w1⟩
  have tail2 : ∀ (v : Int32) q σ13, WR T e act q σ13 → ∃ σ24, (bd (f_X7_some (N + 200) (f_X7_factor (N + 200) 20) σ13) fun σ17 => bd (f_X7_emits (N + 200) ((-10 : Int32) - v) σ17) fun σ24 => some σ24) = some σ24 ∧ FM act σ13 σ24 ∧ WR T e act q σ24 := by
    intro v q σ13 w
    obtain ⟨s, e1, f1, w1⟩ := hWs q σ13 w
    obtain ⟨s2, e2, f2, w2⟩ := tail v q s w1
    exact ⟨s2, bd_k e1 e2, f1.tr f2, w2⟩
  have tail3 : ∀ (v : Int32) q σ6, WR T e act q σ6 → ∃ σ24, (bd (f_X7_must (N + 200) (32 : Int32) σ6) fun σ13 => bd (f_X7_some (N + 200) (f_X7_factor (N + 200) 20) σ13) fun σ17 => bd (f_X7_emits (N + 200) ((-10 : Int32) - v) σ17) fun σ24 => some σ24) = some σ24 ∧ FM act σ6 σ24 ∧ WR T e act q σ24 := by
    intro v q σ6 w
    obtain ⟨s, e1, f1, w1⟩ := x_mustW (N := N + 200) (c := 32) (T := T) (e := e) (act := act) q σ6 w
    obtain ⟨s2, e2, f2, w2⟩ := tail2 v q s w1
    exact ⟨s2, bd_k e1 e2, f1.tr f2, w2⟩
  obtain ⟨σ2, e2, f2, h2⟩ := r1
  have er : aRest T e 0 [105, 110, 101, 32] (p + 1) = if (aLit T e [105, 110, 101, 32] (p + 1)).1 = true then (if (aNum T e (aLit T e [105, 110, 101, 32] (p + 1)).2).1 = true then (if cAt T e (aNum T e (aLit T e [105, 110, 101, 32] (p + 1)).2).2.1 32 = true then (true, (aNum T e (aLit T e [105, 110, 101, 32] (p + 1)).2).2.1 + 1, 0, (aNum T e (aLit T e [105, 110, 101, 32] (p + 1)).2).2.2) else (false, (aNum T e (aLit T e [105, 110, 101, 32] (p + 1)).2).2.1, 0, 0)) else (false, (aNum T e (aLit T e [105, 110, 101, 32] (p + 1)).2).2.1, 0, 0)) else (false, (aLit T e [105, 110, 101, 32] (p + 1)).2, 0, 0) := rfl
  unfold f_X7_much_v1
  rcases h2 with ⟨b1, b2, b3⟩ | ⟨b1, b2⟩
  · obtain ⟨v, σ6, e6, f6, h6⟩ := x_fig (N := N + 192) he l2 hT hact b2
    obtain ⟨n1, n2, n3⟩ := aNum_P (T := T) (e := e) l2
    rcases h6 with ⟨c1, c2, c3, c4⟩ | ⟨c1, c2⟩
    · have n4 := n3 c1
      obtain ⟨σ13, e13, f13, h13⟩ := x_must (N := N + 200) (c := 32) he n2 hT hact (by decide) c3
      rcases h13 with ⟨d1, d2, d3⟩ | ⟨d1, d2⟩
      · have er2 : aHead T e p = (true, (aNum T e (aLit T e [105, 110, 101, 32] (p + 1)).2).2.1 + 1, 0, (aNum T e (aLit T e [105, 110, 101, 32] (p + 1)).2).2.2) := hh.trans (er.trans ((if_pos b1).trans ((if_pos c1).trans (if_pos d1))))
        rw [if_pos d1] at d2
        generalize aNum T e (aLit T e [105, 110, 101, 32] (p + 1)).2 = M at *
        have hlt : M.2.1 + 1 ≤ e := (cAt_lt d1).1
        have ec : aCl T e p = ((EI T e 5 (M.2.1 + 1)).1, (EI T e 5 (M.2.1 + 1)).2.1, (0, M.2.2, (EI T e 5 (M.2.1 + 1)).2.2)) := by
          unfold aCl
          rw [er2]
          rfl
        rw [ec]
        obtain ⟨σ17, e17, f17, h17⟩ := x_EI7 (N := N) (k := 5) he hT hact (by decide) (M.2.1 + 1) cnt σ13 d2 (by omega) hlt
        obtain ⟨g1, g2, g3⟩ := EI_G (T := T) (e := e) 5 (M.2.1 + 1) hlt
        dsimp only
        generalize EI T e 5 (M.2.1 + 1) = R at *
        rcases h17 with ⟨k1, k2, k3⟩ | ⟨k1, k2⟩
        · have g4 := g3 k1
          rw [List.length_map] at k2
          obtain ⟨σ24, e24, f24, h24⟩ := x_emit (N := N + 200) hact (by omega) ((-10 : Int32) - v) k2 he
          rcases h24 with ⟨-, u1, u2⟩ | ⟨u1, -⟩
          · refine ⟨σ24, bd_k e2 (bd2_k e6 (bd_k e13 (bd_k e17 (bd_k e24 rfl)))), (((f2.tr f6).tr f13).tr f17).tr f24, Or.inl ⟨k1, ?_, ?_⟩⟩
            · have hl1 : (R.2.2.map cm1 ++ [wdM 0 - nI M.2.2]).length = R.2.2.length + 1 := by rw [List.length_append, List.length_map]; rfl
              rw [hl1, ← Nat.add_assoc]
              exact u1
            · have q1 : EM act cnt [] σ σ13 := EM.app (b3.eq c4) d3
              have q2 := EM.app q1 k3
              have q3 := EM.app (l2 := [(-10 : Int32) - v]) q2 (by
                rw [List.nil_append, List.length_map]
                exact u2)
              rw [c2] at q3
              exact q3
          · cases u1
        · obtain ⟨σ24, e24, f24, w24⟩ := tail v _ σ17 k2
          exact ⟨σ24, bd_k e2 (bd2_k e6 (bd_k e13 (bd_k e17 e24))), (((f2.tr f6).tr f13).tr f17).tr f24, Or.inr ⟨k1, w24⟩⟩
      · have er2 : aHead T e p = (false, (aNum T e (aLit T e [105, 110, 101, 32] (p + 1)).2).2.1, 0, 0) := hh.trans (er.trans ((if_pos b1).trans ((if_pos c1).trans (if_neg (by rw [d1]; decide)))))
        have ec : aCl T e p = (false, (aNum T e (aLit T e [105, 110, 101, 32] (p + 1)).2).2.1, (0, 0, [])) := by
          unfold aCl
          rw [er2]
          rfl
        rw [ec]
        rw [if_neg (by rw [d1]; decide)] at d2
        obtain ⟨σ24, e24, f24, w24⟩ := tail2 v _ σ13 d2
        exact ⟨σ24, bd_k e2 (bd2_k e6 (bd_k e13 e24)), ((f2.tr f6).tr f13).tr f24, Or.inr ⟨rfl, w24⟩⟩
    · have er2 : aHead T e p = (false, (aNum T e (aLit T e [105, 110, 101, 32] (p + 1)).2).2.1, 0, 0) := hh.trans (er.trans ((if_pos b1).trans (if_neg (by rw [c1]; decide))))
      have ec : aCl T e p = (false, (aNum T e (aLit T e [105, 110, 101, 32] (p + 1)).2).2.1, (0, 0, [])) := by
        unfold aCl
        rw [er2]
        rfl
      rw [ec]
      obtain ⟨σ24, e24, f24, w24⟩ := tail3 v _ σ6 c2
      exact ⟨σ24, bd_k e2 (bd2_k e6 e24), (f2.tr f6).tr f24, Or.inr ⟨rfl, w24⟩⟩
  · have er2 : aHead T e p = (false, (aLit T e [105, 110, 101, 32] (p + 1)).2, 0, 0) := hh.trans (er.trans (if_neg (by rw [b1]; decide)))
    have ec : aCl T e p = (false, (aLit T e [105, 110, 101, 32] (p + 1)).2, (0, 0, [])) := by
      unfold aCl
      rw [er2]
      rfl
    rw [ec]
    obtain ⟨v, σ6, e6, f6, w6⟩ := x_figW (N := N + 192) b2
    obtain ⟨σ24, e24, f24, w24⟩ := tail3 v _ σ6 w6
    exact ⟨σ24, bd_k e2 (bd2_k e6 e24), (f2.tr f6).tr f24, Or.inr ⟨rfl, w24⟩⟩

theorem x_spW_S {N e act : Nat} {T : Nat → Nat} : ∀ (l : List Nat) (fuel j p : Nat) (σ : Sg), j + l.length = 5 → (∀ i, i < l.length → am_chr 6 (j + i) = nI (l.getD i 0)) → WR T e act p σ → ∃ σ', b_X7_spells_v2_2 N (fuel + l.length + 1) (nI j) σ = some σ' ∧ FM act σ σ' ∧ WR T e act p σ'
  | [], fuel, j, p, σ, hj, hc, h => by
    have ej : j = 5 := hj
    subst ej
    refine ⟨σ, ?_, FM.rf act σ, h⟩
    show b_X7_spells_v2_2b N (b_X7_spells_v2_2 N fuel) _ _ = _
    unfold b_X7_spells_v2_2b
    exact if_T (by decide) rfl
  | c :: l, fuel, j, p, σ, hj, hc, h => by
    have hlen : (c :: l).length = l.length + 1 := rfl
    rw [hlen] at hj hc
    have hc0 := hc 0 (by omega)
    obtain ⟨σ1, e1, f1, w1⟩ := x_mustW (N := N) (c := c) (T := T) (e := e) (act := act) p σ h
    obtain ⟨σ2, e2, f2, w2⟩ := x_spW_S (N := N) l fuel (j + 1) p σ1 (by omega) (fun i hi => by
      have := hc (i + 1) (by omega)
      rw [show j + 1 + i = j + (i + 1) by omega]
      exact this) w1
    refine ⟨σ2, ?_, f1.tr f2, w2⟩
    show b_X7_spells_v2_2b N (b_X7_spells_v2_2 N (fuel + l.length + 1)) _ _ = _
    unfold b_X7_spells_v2_2b
    refine if_F (of_eq_false (ile_F (by omega : j < 5) (by decide))) (gd_k (inb_nI (by omega) (by decide)) ?_)
    rw [nI_clamp (by omega)]
    rw [Nat.add_zero] at hc0
    rw [hc0, l_1, nI_add]
    exact bd_k e1 (nm_k e2)
theorem x_sp_S {N e act cnt opn : Nat} {T : Nat → Nat} (he : e ≤ 100) (hT : ∀ i, i < e → T i < 128) (hact : act ≤ 4) : ∀ (l : List Nat) (fuel j p : Nat) (σ : Sg), j + l.length = 5 → (∀ i, i < l.length → am_chr 6 (j + i) = nI (l.getD i 0) ∧ l.getD i 0 < 128) → MS T e act p cnt opn σ → p ≤ e → Mo T e act cnt opn σ (b_X7_spells_v2_2 N (fuel + l.length + 1) (nI j) σ) (aLit T e l p).1 (aLit T e l p).2 []
  | [], fuel, j, p, σ, hj, hc, h, hp => by
    have ej : j = 5 := hj
    subst ej
    refine ⟨σ, ?_, FM.rf act σ, Or.inl ⟨rfl, h, EM.nil rfl⟩⟩
    show b_X7_spells_v2_2b N (b_X7_spells_v2_2 N fuel) _ _ = _
    unfold b_X7_spells_v2_2b
    exact if_T (by decide) rfl
  | c :: l, fuel, j, p, σ, hj, hc, h, hp => by
    have hlen : (c :: l).length = l.length + 1 := rfl
    rw [hlen] at hj hc
    have hc0 := hc 0 (by omega)
    rw [Nat.add_zero] at hc0
    have hc1 : ∀ i, i < l.length → am_chr 6 (j + 1 + i) = nI (l.getD i 0) ∧ l.getD i 0 < 128 := fun i hi => by
      have := hc (i + 1) (by omega)
      rw [show j + 1 + i = j + (i + 1) by omega]
      exact this
    have go : ∀ σ1 r, f_X7_must N (nI c) σ = some σ1 → b_X7_spells_v2_2 N (fuel + l.length + 1) (nI (j + 1)) σ1 = r → b_X7_spells_v2_2 N (fuel + (c :: l).length + 1) (nI j) σ = r := by
      intro σ1 r e1 hr
      show b_X7_spells_v2_2b N (b_X7_spells_v2_2 N (fuel + l.length + 1)) _ _ = _
      unfold b_X7_spells_v2_2b
      refine if_F (of_eq_false (ile_F (by omega : j < 5) (by decide))) (gd_k (inb_nI (by omega) (by decide)) ?_)
      rw [nI_clamp (by omega), hc0.1, l_1, nI_add]
      exact bd_k e1 (nm_k hr)
    obtain ⟨σ1, e1, f1, h1⟩ := x_must (N := N) (c := c) he hp hT hact hc0.2 h
    have el : aLit T e (c :: l) p = if cAt T e p c = true then aLit T e l (p + 1) else (false, p) := rfl
    rw [el]
    rcases h1 with ⟨b1, b2, b3⟩ | ⟨b1, b2⟩
    · rw [if_pos b1] at b2 ⊢
      have hlt := (cAt_lt b1).1
      have r := x_sp_S (N := N) he hT hact l fuel (j + 1) (p + 1) σ1 (by omega) hc1 b2 hlt
      obtain ⟨σ2, e2, f2, h2⟩ := r
      refine ⟨σ2, go σ1 _ e1 e2, f1.tr f2, ?_⟩
      rcases h2 with ⟨c1, c2, c3⟩ | h2
      · exact Or.inl ⟨c1, c2, b3.app c3⟩
      · exact Or.inr h2
    · rw [if_neg (by rw [b1]; decide)] at b2 ⊢
      obtain ⟨σ2, e2, f2, w2⟩ := x_spW_S (N := N) l fuel (j + 1) p σ1 (by omega) (fun i hi => (hc1 i hi).1) b2
      exact Mo.wr ⟨σ2, go σ1 _ e1 e2, f1.tr f2, w2⟩
theorem x_much_S {N e act cnt p : Nat} {T : Nat → Nat} {σ : Sg} (he : e ≤ 100) (hT : ∀ i, i < e → T i < 128) (hact : act ≤ 4) (h : MS T e act p cnt 0 σ) (hcp : cnt ≤ p) (hp : p ≤ e) (hh : aHead T e p = aRest T e 1 [116, 101, 112, 32] (p + 1)) (hc0 : cAt T e p 115 = true) : Mo T e act cnt 0 σ (f_X7_much_v2 (N + 200) (-200 : Int32) σ) (aCl T e p).1 (aCl T e p).2.1 ((aCl T e p).2.2.2.2.map cm1 ++ [wdM (aCl T e p).2.2.1 - nI (aCl T e p).2.2.2.1]) := by
  have chars : ∀ i, i < 1 + 4 → am_chr 6 (0 + i) = nI (([115] ++ [116, 101, 112, 32] : List Nat).getD i 0) ∧ ([115] ++ [116, 101, 112, 32] : List Nat).getD i 0 < 128 := by decide
  have el : aLit T e (115 :: [116, 101, 112, 32]) p = aLit T e [116, 101, 112, 32] (p + 1) := if_pos hc0
  have r1 := x_sp_S (N := N + 200) he hT hact (115 :: [116, 101, 112, 32]) (N + 199 - 5) 0 p σ rfl chars h hp
  rw [show N + 199 - 5 + (115 :: [116, 101, 112, 32] : List Nat).length + 1 = N + 200 from by show N + 199 - 5 + 5 + 1 = N + 200; omega, el] at r1
  obtain ⟨l1, l2⟩ := aLit_P (T := T) (e := e) [116, 101, 112, 32] (p + 1) (by have := (cAt_lt hc0).1; omega)
  have hWs : Wf T e act (f_X7_some (N + 200) (f_X7_factor (N + 200) 20)) := x_someW (N := N + 192) x_factorW
  have tail : ∀ (v : Int32) q σ17, WR T e act q σ17 → ∃ σ24, (bd (f_X7_emits (N + 200) ((-200 : Int32) - v) σ17) fun σ24 => some σ24) = some σ24 ∧ FM act σ17 σ24 ∧ WR T e act q σ24 := by
    intro v q σ17 w
    obtain ⟨s, e1, f1, w1⟩ := x_emitW (N := N + 200) (T := T) (e := e) (act := act) ((-200 : Int32) - v) q σ17 w
    exact ⟨s, bd_k e1 rfl, f1, w1⟩
  have tail2 : ∀ (v : Int32) q σ13, WR T e act q σ13 → ∃ σ24, (bd (f_X7_some (N + 200) (f_X7_factor (N + 200) 20) σ13) fun σ17 => bd (f_X7_emits (N + 200) ((-200 : Int32) - v) σ17) fun σ24 => some σ24) = some σ24 ∧ FM act σ13 σ24 ∧ WR T e act q σ24 := by
    intro v q σ13 w
    obtain ⟨s, e1, f1, w1⟩ := hWs q σ13 w
    obtain ⟨s2, e2, f2, w2⟩ := tail v q s w1
    exact ⟨s2, bd_k e1 e2, f1.tr f2, w2⟩
  have tail3 : ∀ (v : Int32) q σ6, WR T e act q σ6 → ∃ σ24, (bd (f_X7_must (N + 200) (32 : Int32) σ6) fun σ13 => bd (f_X7_some (N + 200) (f_X7_factor (N + 200) 20) σ13) fun σ17 => bd (f_X7_emits (N + 200) ((-200 : Int32) - v) σ17) fun σ24 => some σ24) = some σ24 ∧ FM act σ6 σ24 ∧ WR T e act q σ24 := by
    intro v q σ6 w
    obtain ⟨s, e1, f1, w1⟩ := x_mustW (N := N + 200) (c := 32) (T := T) (e := e) (act := act) q σ6 w
    obtain ⟨s2, e2, f2, w2⟩ := tail2 v q s w1
    exact ⟨s2, bd_k e1 e2, f1.tr f2, w2⟩
  obtain ⟨σ2, e2, f2, h2⟩ := r1
  have er : aRest T e 1 [116, 101, 112, 32] (p + 1) = if (aLit T e [116, 101, 112, 32] (p + 1)).1 = true then (if (aNum T e (aLit T e [116, 101, 112, 32] (p + 1)).2).1 = true then (if cAt T e (aNum T e (aLit T e [116, 101, 112, 32] (p + 1)).2).2.1 32 = true then (true, (aNum T e (aLit T e [116, 101, 112, 32] (p + 1)).2).2.1 + 1, 1, (aNum T e (aLit T e [116, 101, 112, 32] (p + 1)).2).2.2) else (false, (aNum T e (aLit T e [116, 101, 112, 32] (p + 1)).2).2.1, 0, 0)) else (false, (aNum T e (aLit T e [116, 101, 112, 32] (p + 1)).2).2.1, 0, 0)) else (false, (aLit T e [116, 101, 112, 32] (p + 1)).2, 0, 0) := rfl
  unfold f_X7_much_v2
  rcases h2 with ⟨b1, b2, b3⟩ | ⟨b1, b2⟩
  · obtain ⟨v, σ6, e6, f6, h6⟩ := x_fig (N := N + 192) he l2 hT hact b2
    obtain ⟨n1, n2, n3⟩ := aNum_P (T := T) (e := e) l2
    rcases h6 with ⟨c1, c2, c3, c4⟩ | ⟨c1, c2⟩
    · have n4 := n3 c1
      obtain ⟨σ13, e13, f13, h13⟩ := x_must (N := N + 200) (c := 32) he n2 hT hact (by decide) c3
      rcases h13 with ⟨d1, d2, d3⟩ | ⟨d1, d2⟩
      · have er2 : aHead T e p = (true, (aNum T e (aLit T e [116, 101, 112, 32] (p + 1)).2).2.1 + 1, 1, (aNum T e (aLit T e [116, 101, 112, 32] (p + 1)).2).2.2) := hh.trans (er.trans ((if_pos b1).trans ((if_pos c1).trans (if_pos d1))))
        rw [if_pos d1] at d2
        generalize aNum T e (aLit T e [116, 101, 112, 32] (p + 1)).2 = M at *
        have hlt : M.2.1 + 1 ≤ e := (cAt_lt d1).1
        have ec : aCl T e p = ((EI T e 5 (M.2.1 + 1)).1, (EI T e 5 (M.2.1 + 1)).2.1, (1, M.2.2, (EI T e 5 (M.2.1 + 1)).2.2)) := by
          unfold aCl
          rw [er2]
          rfl
        rw [ec]
        obtain ⟨σ17, e17, f17, h17⟩ := x_EI7 (N := N) (k := 5) he hT hact (by decide) (M.2.1 + 1) cnt σ13 d2 (by omega) hlt
        obtain ⟨g1, g2, g3⟩ := EI_G (T := T) (e := e) 5 (M.2.1 + 1) hlt
        dsimp only
        generalize EI T e 5 (M.2.1 + 1) = R at *
        rcases h17 with ⟨k1, k2, k3⟩ | ⟨k1, k2⟩
        · have g4 := g3 k1
          rw [List.length_map] at k2
          obtain ⟨σ24, e24, f24, h24⟩ := x_emit (N := N + 200) hact (by omega) ((-200 : Int32) - v) k2 he
          rcases h24 with ⟨-, u1, u2⟩ | ⟨u1, -⟩
          · refine ⟨σ24, bd_k e2 (bd2_k e6 (bd_k e13 (bd_k e17 (bd_k e24 rfl)))), (((f2.tr f6).tr f13).tr f17).tr f24, Or.inl ⟨k1, ?_, ?_⟩⟩
            · have hl1 : (R.2.2.map cm1 ++ [wdM 1 - nI M.2.2]).length = R.2.2.length + 1 := by rw [List.length_append, List.length_map]; rfl
              rw [hl1, ← Nat.add_assoc]
              exact u1
            · have q1 : EM act cnt [] σ σ13 := EM.app (b3.eq c4) d3
              have q2 := EM.app q1 k3
              have q3 := EM.app (l2 := [(-200 : Int32) - v]) q2 (by
                rw [List.nil_append, List.length_map]
                exact u2)
              rw [c2] at q3
              exact q3
          · cases u1
        · obtain ⟨σ24, e24, f24, w24⟩ := tail v _ σ17 k2
          exact ⟨σ24, bd_k e2 (bd2_k e6 (bd_k e13 (bd_k e17 e24))), (((f2.tr f6).tr f13).tr f17).tr f24, Or.inr ⟨k1, w24⟩⟩
      · have er2 : aHead T e p = (false, (aNum T e (aLit T e [116, 101, 112, 32] (p + 1)).2).2.1, 0, 0) := hh.trans (er.trans ((if_pos b1).trans ((if_pos c1).trans (if_neg (by rw [d1]; decide)))))
        have ec : aCl T e p = (false, (aNum T e (aLit T e [116, 101, 112, 32] (p + 1)).2).2.1, (0, 0, [])) := by
          unfold aCl
          rw [er2]
          rfl
        rw [ec]
        rw [if_neg (by rw [d1]; decide)] at d2
        obtain ⟨σ24, e24, f24, w24⟩ := tail2 v _ σ13 d2
        exact ⟨σ24, bd_k e2 (bd2_k e6 (bd_k e13 e24)), ((f2.tr f6).tr f13).tr f24, Or.inr ⟨rfl, w24⟩⟩
    · have er2 : aHead T e p = (false, (aNum T e (aLit T e [116, 101, 112, 32] (p + 1)).2).2.1, 0, 0) := hh.trans (er.trans ((if_pos b1).trans (if_neg (by rw [c1]; decide))))
      have ec : aCl T e p = (false, (aNum T e (aLit T e [116, 101, 112, 32] (p + 1)).2).2.1, (0, 0, [])) := by
        unfold aCl
        rw [er2]
        rfl
      rw [ec]
      obtain ⟨σ24, e24, f24, w24⟩ := tail3 v _ σ6 c2
      exact ⟨σ24, bd_k e2 (bd2_k e6 e24), (f2.tr f6).tr f24, Or.inr ⟨rfl, w24⟩⟩
  · have er2 : aHead T e p = (false, (aLit T e [116, 101, 112, 32] (p + 1)).2, 0, 0) := hh.trans (er.trans (if_neg (by rw [b1]; decide)))
    have ec : aCl T e p = (false, (aLit T e [116, 101, 112, 32] (p + 1)).2, (0, 0, [])) := by
      unfold aCl
      rw [er2]
      rfl
    rw [ec]
    obtain ⟨v, σ6, e6, f6, w6⟩ := x_figW (N := N + 192) b2
    obtain ⟨σ24, e24, f24, w24⟩ := tail3 v _ σ6 w6
    exact ⟨σ24, bd_k e2 (bd2_k e6 e24), (f2.tr f6).tr f24, Or.inr ⟨rfl, w24⟩⟩

theorem cAt_ne {T : Nat → Nat} {e p c d : Nat} (h : cAt T e p c = true) (hd : d ≠ c) : ¬ cAt T e p d = true := fun w => hd ((cAt_lt w).2.symm.trans (cAt_lt h).2)
theorem x_clause {N e act cnt p : Nat} {T : Nat → Nat} {σ : Sg} (he : e ≤ 100) (hT : ∀ i, i < e → T i < 128) (hact : act ≤ 4) (h : MS T e act p cnt 0 σ) (hcp : cnt ≤ p) (hp : p ≤ e) : Mo T e act cnt 0 σ (f_X7_clauseHere (N + 200) σ) (aCl T e p).1 (aCl T e p).2.1 ((aCl T e p).2.2.2.2.map cm1 ++ [wdM (aCl T e p).2.2.1 - nI (aCl T e p).2.2.2.1]) := by
  have hh := x_here (N := N + 200) he hp hact h.1 h.2.1
  unfold f_X7_clauseHere
  by_cases c1 : cAt T e p 97 = true
  · have r := x_much_A (N := N) he hT hact h hcp hp ((if_neg (cAt_ne c1 (by decide))).trans ((if_neg (cAt_ne c1 (by decide))).trans (if_pos c1))) c1
    obtain ⟨σ', e1, q⟩ := r
    exact ⟨σ', bd2_k hh (if_T (hV_T c1) (bd_k e1 rfl)), q⟩
  by_cases c2 : cAt T e p 102 = true
  · have r := x_much_F (N := N) he hT hact h hcp hp (if_pos c2) c2
    obtain ⟨σ', e1, q⟩ := r
    exact ⟨σ', bd2_k hh (if_F (hV_F (c := 97) hT (by decide) c1) (if_T (hV_T c2) (bd_k e1 rfl))), q⟩
  by_cases c3 : cAt T e p 115 = true
  · have r := x_much_S (N := N) he hT hact h hcp hp ((if_neg c2).trans (if_pos c3)) c3
    obtain ⟨σ', e1, q⟩ := r
    exact ⟨σ', bd2_k hh (if_F (hV_F (c := 97) hT (by decide) c1) (if_F (hV_F (c := 102) hT (by decide) c2) (if_T (hV_T c3) (bd_k e1 rfl)))), q⟩
  · have ea : aHead T e p = (false, p, 0, 0) := (if_neg c2).trans ((if_neg c3).trans (if_neg c1))
    have ec : aCl T e p = (false, p, (0, 0, [])) := by
      unfold aCl
      rw [ea]
      rfl
    rw [ec]
    exact Mo.wr ⟨srg σ 60 7 (nI 1), bd2_k hh (if_F (hV_F (c := 97) hT (by decide) c1) (if_F (hV_F (c := 102) hT (by decide) c2) (if_F (hV_F (c := 115) hT (by decide) c3) (nm_k rfl)))), (FM.rf act σ).srg _ (by omega), h.1.w7 h.2.1⟩
/-- the model's new town stands -/
def TOK (act : Nat) (t : Tw) (σ0 σ : Sg) : Prop := (∀ k j, ¬ (k = 60 ∧ (j = 5 ∨ j = 7 ∨ j = 8)) → rg σ k j = rg σ0 k j) ∧ (∀ k, k ≠ 61 → ar σ k = ar σ0 k) ∧ (∀ i, i ≠ 1 → i ≠ 4 → i ≠ 201 + act → ¬ (206 + 140 * act ≤ i ∧ i < 346 + 140 * act) → ar σ 61 i = ar σ0 61 i) ∧ ar σ 61 1 = ar σ0 61 1 + 1 ∧ ar σ 61 4 = nI act ∧ ar σ 61 (201 + act) = nI (twM t).length ∧ ∀ i, i < (twM t).length → ar σ 61 (206 + 140 * act + i) = (twM t).getD i 0
theorem twM_snoc (pre : Tw) (w n : Nat) (cs : List Nat) : twM (pre ++ [(w, n, cs)]) = twM pre ++ (cs.map cm1 ++ [wdM w - nI n]) := by
  rw [twM_app]
  congr 1
  exact List.append_nil _
theorem x_town75 {N e act : Nat} {T : Nat → Nat} (he : e ≤ 100) (hT : ∀ i, i < e → T i < 128) (hact : act ≤ 4) : ∀ m fuel pre p σ0 σ, pre.length + m + 1 = 10 → MS T e act p (twM pre).length 0 σ → EM act 0 (twM pre) σ0 σ → FM act σ0 σ → (twM pre).length ≤ p → p ≤ e → ∃ σ', (bd (f_X7_clauseHere (N + 200) σ) fun σ72 => b_X7_town_75 (N + 200) (fuel + m + 2) (nI (pre.length + 1)) σ72) = some (if (aTown T e (m + 1) pre p).1 = true then nI act else -10 - nI (aTown T e (m + 1) pre p).2.1, σ') ∧ (((aTown T e (m + 1) pre p).1 = true ∧ TOK act (aTown T e (m + 1) pre p).2.2 σ0 σ') ∨ ((aTown T e (m + 1) pre p).1 = false ∧ FM act σ0 σ')) := by
  intro m
  induction m with
  | zero =>
    intro fuel pre p σ0 σ hl h hE hF hcp hp
    obtain ⟨σ1, e1, f1, h1⟩ := x_clause (N := N) he hT hact h hcp hp
    obtain ⟨q1, q2, q3⟩ := aCl_P (T := T) (e := e) hp
    have e0 : aTown T e 1 pre p = if (aCl T e p).1 = true then (if (aCl T e p).2.1 = e then (true, e, pre ++ [(aCl T e p).2.2]) else if 0 = 0 ∨ cAt T e (aCl T e p).2.1 59 = false then (false, (aCl T e p).2.1, []) else aTown T e 0 (pre ++ [(aCl T e p).2.2]) ((aCl T e p).2.1 + 1)) else (false, (aCl T e p).2.1, []) := rfl
    rw [e0]
    have go : ∀ r, b_X7_town_75b (N + 200) (b_X7_town_75 (N + 200) (fuel + 0 + 1)) (nI (pre.length + 1)) σ1 = r → (bd (f_X7_clauseHere (N + 200) σ) fun σ72 => b_X7_town_75 (N + 200) (fuel + 0 + 2) (nI (pre.length + 1)) σ72) = r := fun r hr => bd_k e1 hr
    rcases h1 with ⟨b1, b2, b3⟩ | ⟨b1, b2⟩
    · rw [if_pos b1]
      have q4 := q3 b1
      by_cases c1 : (aCl T e p).2.1 = e
      · rw [if_pos c1]
        refine ⟨sar (sar σ1 61 1 (ar σ1 61 1 + 1)) 61 4 (nI act), go _ ?_, Or.inl ⟨rfl, ?_⟩⟩
        · unfold b_X7_town_75b b_X7_town_117
          refine if_T (by rw [b2.2.2.1]; decide) (if_T (of_eq_true (ile_T (by omega : 10 ≤ pre.length + 1) (by omega))) (if_T (by rw [b2.2.2.1]; decide) (if_T (by rw [b2.2.1, b2.1.2.1, c1]) (gd_k rfl (gd_k rfl (nm_k (gd_k rfl (nm_k ?_))))))))
          rw [show rg (sar σ1 61 (1 : Int32).toNatClampNeg (ar σ1 61 (1 : Int32).toNatClampNeg + 1)) 60 4 = nI act from b2.1.1, show rg (sar (sar σ1 61 (1 : Int32).toNatClampNeg (ar σ1 61 (1 : Int32).toNatClampNeg + 1)) 61 (4 : Int32).toNatClampNeg (nI act)) 60 4 = nI act from b2.1.1]
          rfl
        · have hE2 := EM.app (l := twM pre) hE (by rw [Nat.zero_add]; exact b3)
          have ft := hF.tr f1
          have ec : twM (pre ++ [(aCl T e p).2.2]) = twM pre ++ ((aCl T e p).2.2.2.2.map cm1 ++ [wdM (aCl T e p).2.2.1 - nI (aCl T e p).2.2.2.1]) := twM_snoc _ _ _ _
          refine ⟨fun k j hk => ft.1 k j hk, fun k hk => by rw [ar_sar_ne hk, ar_sar_ne hk]; exact ft.2.1 k hk, fun i h1 h2 h3 h4 => by rw [ar_s1 (by omega), ar_s1 (by omega)]; exact ft.2.2 i h3 h4, ?_, ar_s2 ⟨rfl, rfl⟩, ?_, fun i hi => ?_⟩
          · rw [ar_s1 (by omega), ar_s2 ⟨rfl, rfl⟩, ft.2.2 1 (by omega) (by omega)]
          · rw [ar_s1 (by omega), ar_s1 (by omega)]
            show ar σ1 61 (201 + act) = nI (twM (pre ++ [(aCl T e p).2.2])).length
            rw [ec, List.length_append]
            exact b2.2.2.2.2
          · rw [ar_s1 (by omega), ar_s1 (by omega)]
            show ar σ1 61 (206 + 140 * act + i) = (twM (pre ++ [(aCl T e p).2.2])).getD i 0
            have hi' : i < (twM (pre ++ [(aCl T e p).2.2])).length := hi
            rw [ec] at hi' ⊢
            have := hE2.2 i hi'
            rw [Nat.zero_add] at this
            exact this
      · rw [if_neg c1, if_pos (Or.inl rfl)]
        refine ⟨σ1, go _ ?_, Or.inr ⟨rfl, hF.tr f1⟩⟩
        unfold b_X7_town_75b b_X7_town_117 b_X7_town_135
        refine if_T (by rw [b2.2.2.1]; decide) (if_T (of_eq_true (ile_T (by omega : 10 ≤ pre.length + 1) (by omega))) (if_T (by rw [b2.2.2.1]; decide) (if_F ?_ ?_)))
        · rw [b2.2.1, b2.1.2.1]
          exact of_eq_false (ieq_F c1 (by omega) (by omega))
        · rw [b2.2.1]
          rfl
    · rw [if_neg (show ¬ (aCl T e p).1 = true by rw [b1]; decide)]
      refine ⟨σ1, go _ ?_, Or.inr ⟨rfl, hF.tr f1⟩⟩
      unfold b_X7_town_75b b_X7_town_117 b_X7_town_135
      refine if_F (by rw [b2.2.2]; decide) (if_F (by rw [b2.2.2]; decide) ?_)
      rw [b2.2.1]
      rfl
  | succ m ih =>
    intro fuel pre p σ0 σ hl h hE hF hcp hp
    obtain ⟨σ1, e1, f1, h1⟩ := x_clause (N := N) he hT hact h hcp hp
    obtain ⟨q1, q2, q3⟩ := aCl_P (T := T) (e := e) hp
    have e0 : aTown T e (m + 1 + 1) pre p = if (aCl T e p).1 = true then (if (aCl T e p).2.1 = e then (true, e, pre ++ [(aCl T e p).2.2]) else if m + 1 = 0 ∨ cAt T e (aCl T e p).2.1 59 = false then (false, (aCl T e p).2.1, []) else aTown T e (m + 1) (pre ++ [(aCl T e p).2.2]) ((aCl T e p).2.1 + 1)) else (false, (aCl T e p).2.1, []) := rfl
    rw [e0]
    have go : ∀ r, b_X7_town_75b (N + 200) (b_X7_town_75 (N + 200) (fuel + m + 2)) (nI (pre.length + 1)) σ1 = r → (bd (f_X7_clauseHere (N + 200) σ) fun σ72 => b_X7_town_75 (N + 200) (fuel + (m + 1) + 2) (nI (pre.length + 1)) σ72) = r := fun r hr => bd_k e1 hr
    have hl10 : pre.length + 1 < 10 := by omega
    rcases h1 with ⟨b1, b2, b3⟩ | ⟨b1, b2⟩
    · rw [if_pos b1]
      have q4 := q3 b1
      have hh := x_here (N := N + 200) he q2 hact b2.1 b2.2.1
      have ec : twM (pre ++ [(aCl T e p).2.2]) = twM pre ++ ((aCl T e p).2.2.2.2.map cm1 ++ [wdM (aCl T e p).2.2.1 - nI (aCl T e p).2.2.2.1]) := twM_snoc _ _ _ _
      have hE2 := EM.app (l := twM pre) hE (by rw [Nat.zero_add]; exact b3)
      by_cases c1 : (aCl T e p).2.1 = e
      · rw [if_pos c1]
        have hn59 : ¬ cAt T e (aCl T e p).2.1 59 = true := fun w => by
          have := (cAt_lt w).1
          omega
        refine ⟨sar (sar σ1 61 1 (ar σ1 61 1 + 1)) 61 4 (nI act), go _ ?_, Or.inl ⟨rfl, ?_⟩⟩
        · unfold b_X7_town_75b b_X7_town_117
          refine if_T (by rw [b2.2.2.1]; decide) (if_F (of_eq_false (ile_F hl10 (by decide))) (bd2_k hh (if_F (hV_F (c := 59) hT (by decide) hn59) (if_T (by rw [b2.2.2.1]; decide) (if_T (by rw [b2.2.1, b2.1.2.1, c1]) (gd_k rfl (gd_k rfl (nm_k (gd_k rfl (nm_k ?_))))))))))
          rw [show rg (sar σ1 61 (1 : Int32).toNatClampNeg (ar σ1 61 (1 : Int32).toNatClampNeg + 1)) 60 4 = nI act from b2.1.1, show rg (sar (sar σ1 61 (1 : Int32).toNatClampNeg (ar σ1 61 (1 : Int32).toNatClampNeg + 1)) 61 (4 : Int32).toNatClampNeg (nI act)) 60 4 = nI act from b2.1.1]
          rfl
        · have ft := hF.tr f1
          refine ⟨fun k j hk => ft.1 k j hk, fun k hk => by rw [ar_sar_ne hk, ar_sar_ne hk]; exact ft.2.1 k hk, fun i h1 h2 h3 h4 => by rw [ar_s1 (by omega), ar_s1 (by omega)]; exact ft.2.2 i h3 h4, ?_, ar_s2 ⟨rfl, rfl⟩, ?_, fun i hi => ?_⟩
          · rw [ar_s1 (by omega), ar_s2 ⟨rfl, rfl⟩, ft.2.2 1 (by omega) (by omega)]
          · rw [ar_s1 (by omega), ar_s1 (by omega)]
            show ar σ1 61 (201 + act) = nI (twM (pre ++ [(aCl T e p).2.2])).length
            rw [ec, List.length_append]
            exact b2.2.2.2.2
          · rw [ar_s1 (by omega), ar_s1 (by omega)]
            show ar σ1 61 (206 + 140 * act + i) = (twM (pre ++ [(aCl T e p).2.2])).getD i 0
            have hi' : i < (twM (pre ++ [(aCl T e p).2.2])).length := hi
            rw [ec] at hi' ⊢
            have := hE2.2 i hi'
            rw [Nat.zero_add] at this
            exact this
      · rw [if_neg c1]
        by_cases h59 : cAt T e (aCl T e p).2.1 59 = true
        · rw [if_neg (show ¬ (m + 1 = 0 ∨ cAt T e (aCl T e p).2.1 59 = false) by rw [h59]; intro w; rcases w with w | w <;> cases w)]
          have hlt := (cAt_lt h59).1
          have m2 : MS T e act ((aCl T e p).2.1 + 1) (twM (pre ++ [(aCl T e p).2.2])).length 0 (srg σ1 60 5 (nI ((aCl T e p).2.1 + 1))) := by
            rw [ec, List.length_append]
            exact b2.mv
          have hpl : (pre ++ [(aCl T e p).2.2]).length = pre.length + 1 := List.length_append
          obtain ⟨σ2, e2, r2⟩ := ih fuel (pre ++ [(aCl T e p).2.2]) ((aCl T e p).2.1 + 1) σ0 (srg σ1 60 5 (nI ((aCl T e p).2.1 + 1))) (by rw [hpl]; omega) m2 (by rw [ec]; exact hE2.eq rfl) ((hF.tr f1).srg _ (by omega)) (by
            rw [ec, List.length_append, List.length_append, List.length_map]
            show (twM pre).length + ((aCl T e p).2.2.2.2.length + 1) ≤ _
            omega) hlt
          refine ⟨σ2, go _ ?_, r2⟩
          unfold b_X7_town_75b
          refine if_T (by rw [b2.2.2.1]; decide) (if_F (of_eq_false (ile_F hl10 (by decide))) (bd2_k hh (if_T (hV_T h59) (nm_k ?_))))
          rw [b2.2.1, l_1, nI_add, nI_add]
          rw [hpl] at e2
          rw [← e2]
          rfl
        · rw [if_pos (Or.inr (bF h59))]
          refine ⟨σ1, go _ ?_, Or.inr ⟨rfl, hF.tr f1⟩⟩
          unfold b_X7_town_75b b_X7_town_117 b_X7_town_135
          refine if_T (by rw [b2.2.2.1]; decide) (if_F (of_eq_false (ile_F hl10 (by decide))) (bd2_k hh (if_F (hV_F (c := 59) hT (by decide) h59) (if_T (by rw [b2.2.2.1]; decide) (if_F ?_ ?_)))))
          · rw [b2.2.1, b2.1.2.1]
            exact of_eq_false (ieq_F c1 (by omega) (by omega))
          · rw [b2.2.1]
            rfl
    · rw [if_neg (show ¬ (aCl T e p).1 = true by rw [b1]; decide)]
      refine ⟨σ1, go _ ?_, Or.inr ⟨rfl, hF.tr f1⟩⟩
      unfold b_X7_town_75b b_X7_town_117 b_X7_town_135
      refine if_F (by rw [b2.2.2]; decide) (if_F (by rw [b2.2.2]; decide) ?_)
      rw [b2.2.1]
      rfl
theorem op_town {N : Nat} {σ : Sg} {A : Ab} (hI : Inv A σ) : Ok2 (f_X6_town (N + 200)) (f_X7_town (N + 200)) σ := by
  obtain ⟨⟨hS7, hD99, hT100, hW5, hZ7⟩, hAS, hAT, hAZ, hAW, hAW0⟩ := id hI.1
  obtain ⟨-, hC, hM, hK, r, hr, r1, r2, r3⟩ := id hI
  obtain ⟨⟨c1, c2, c3, c4, c5⟩, cS, cT, cZ, cW⟩ := id hC
  obtain ⟨⟨m1, m2, m3, m4, m5, m6⟩, mS, mT, mZ, mW⟩ := id hM
  unfold f_X6_town
  have m4' : ar σ 61 (1 : Int32).toNatClampNeg = nI (aW A) := m4
  by_cases h5 : aW A = 5
  · unfold f_X7_town
    refine ⟨-4, σ, σ, A, if_F ?_ rfl, gd_k rfl (if_T ?_ rfl), hI⟩
    · rw [c4, h5]
      decide
    · rw [m4', h5]
      rfl
  have hact : aW A ≤ 4 := by omega
  have hlt5 : rg σ 1 9 < (5 : Int32) := by
    rw [c4]
    exact of_eq_true (ilt_T (by omega : aW A < 5) (by decide))
  obtain ⟨σ1, e1, ⟨g1, g2, g3⟩, g4, g5⟩ := x_read6 (N := N) hI.1 hC hK.1
  have hme : ¬ ar σ 61 (1 : Int32).toNatClampNeg = (5 : Int32) := by
    rw [m4']
    exact of_eq_false (ieq_F (by omega : ¬ aW A = 5) (by omega) (by decide))
  have hTP := aTown_P (T := tp A) hT100 10 [] 0 rfl (Nat.zero_le _) (Nat.le_refl _) ⟨by decide, by decide, fun q hq => absurd hq List.not_mem_nil⟩
  -- the model, from any state that stands for the same but for the draft
  have model : ∀ σa : Sg, ar σa 61 = ar σ 61 → ∃ s σb, s = srg (srg (srg (sar (sar (srg (srg σa 60 4 (nI (aW A))) 60 6 (nI (aT A))) 61 3 0) 61 (201 + aW A) 0) 60 5 0) 60 7 0) 60 8 0 ∧ f_X7_town (N + 200) σa = some (if (aTown (tp A) (aT A) 10 [] 0).1 = true then nI (aW A) else -10 - nI (aTown (tp A) (aT A) 10 [] 0).2.1, σb) ∧ (((aTown (tp A) (aT A) 10 [] 0).1 = true ∧ TOK (aW A) (aTown (tp A) (aT A) 10 [] 0).2.2 s σb) ∨ ((aTown (tp A) (aT A) 10 [] 0).1 = false ∧ FM (aW A) s σb)) := by
    intro σa ha
    obtain ⟨s, hs⟩ : ∃ s, s = srg (srg (srg (sar (sar (srg (srg σa 60 4 (nI (aW A))) 60 6 (nI (aT A))) 61 3 0) 61 (201 + aW A) 0) 60 5 0) 60 7 0) 60 8 0 := ⟨_, rfl⟩
    have hMS : MS (tp A) (aT A) (aW A) 0 (twM []).length 0 s := by
      subst hs
      refine ⟨⟨rfl, rfl, fun i hi => ?_⟩, rfl, rfl, rfl, ?_⟩
      · rw [ar_srg, ar_srg, ar_srg, ar_s1 (by omega), ar_s1 (by omega), ar_srg, ar_srg, ha]
        exact mT i hi
      · rw [ar_srg, ar_srg, ar_srg, ar_s2 ⟨rfl, rfl⟩]
        rfl
    obtain ⟨σb, e2, h2⟩ := x_town75 (N := N) (T := tp A) (e := aT A) (act := aW A) hT100 hAT hact 9 (N + 189) [] 0 s s rfl hMS (EM.nil rfl) (FM.rf _ _) (Nat.le_refl _) (Nat.zero_le _)
    rw [show N + 189 + 9 + 2 = N + 200 by omega] at e2
    refine ⟨s, σb, hs, ?_, h2⟩
    have ma : ar σa 61 (1 : Int32).toNatClampNeg = nI (aW A) := by rw [ha]; exact m4
    unfold f_X7_town
    rw [ma]
    refine gd_k rfl (if_F (of_eq_false (ieq_F (by omega : ¬ aW A = 5) (by omega) (by decide))) (gd_k rfl (nm_k (gd_k rfl ?_))))
    rw [show ar (srg σa 60 4 (nI (aW A))) 61 (3 : Int32).toNatClampNeg = nI (aT A) from (congrFun ha 3).trans m3]
    refine nm_k (gd_k rfl (nm_k ?_))
    rw [show rg (sar (srg (srg σa 60 4 (nI (aW A))) 60 6 (nI (aT A))) 61 (3 : Int32).toNatClampNeg 0) 60 4 = nI (aW A) from rfl, l_201, nI_add]
    refine gd_k (inb_nI (by omega) (by decide)) (nm_k (nm_k (nm_k (nm_k ?_))))
    rw [nI_clamp (by omega), ← e2, hs]
    rfl
  by_cases hok : (aTown (tp A) (aT A) 10 [] 0).1 = true
  · rw [if_pos hok] at e1
    have hO := hTP hok
    have hRT := g4 hok
    have hlen := hO.1
    have htl := twM_len (aTown (tp A) (aT A) 10 [] 0).2.2
    have hcl := hO.2.1
    generalize ht : (aTown (tp A) (aT A) 10 [] 0).2.2 = t at *
    obtain ⟨σ2, e2, x1, x2, x3⟩ : ∃ σ2, bd (f_X5_copyFrom_v1 (N + 200) (srg σ1 1 7 0)) (fun σ67 => nm (srg σ67 1 9 ((rg σ67 1 9) + (1 : Int32))) fun σ80 => some ((rg σ80 1 9) - (1 : Int32), σ80)) = some (rg σ1 1 9 + 1 - 1, σ2) ∧ RT 3 26 t σ2 ∧ (∀ k j, k ≠ 3 → ¬ (k = 1 ∧ (j = 7 ∨ j = 9)) → rg σ2 k j = rg σ1 k j) ∧ (rg σ2 1 7 = 0 ∧ rg σ2 1 9 = rg σ1 1 9 + 1) ∧ ∀ k, ¬ (26 ≤ k ∧ k ≤ 29) → ar σ2 k = ar σ1 k := by
      obtain ⟨t1, t2, t3, t4, t5⟩ := hRT
      refine ⟨_, rfl, ⟨t1, t2, fun i hi => ?_, fun i hi => ?_, fun i hi => ?_⟩, fun k j h1 h2 => ?_, ⟨rfl, rfl⟩, fun k hk => ?_⟩
      · exact ⟨(sb_cpy0 (by omega)).trans (t3 i hi).1, (sb_cpy0 (by omega)).trans (t3 i hi).2⟩
      · exact (sb_cpy0 (by omega)).trans (t4 i hi)
      · exact (sb_cpy0 (by omega)).trans (t5 i hi)
      · rw [rg_s1 (by omega), rg_srow, rg_srow, rg_srow, rg_srow, rg_s1 (by omega), rg_s1 (by omega), rg_s1 (by omega)]
      · rw [ar_srg, ar_srow_ne (by omega), ar_srow_ne (by omega), ar_srow_ne (by omega), ar_srow_ne (by omega), ar_srg, ar_srg, ar_srg]
    have a61 : ar σ2 61 = ar σ 61 := by rw [x3.2 61 (by decide), g2 61 (by decide) (by decide)]
    obtain ⟨s, σ3, hs, e3, h3⟩ := model σ2 a61
    rcases h3 with ⟨-, w1, w2, w3, w4, w5, w6, w7⟩ | ⟨h3, -⟩
    case inr => rw [hok] at h3; cases h3
    rw [if_pos hok] at e3
    have sa : ∀ k, k ≠ 61 → ar σ3 k = ar σ2 k := fun k hk => by
      rw [w2 k hk, hs]
      rw [ar_srg, ar_srg, ar_srg, ar_sar_ne hk, ar_sar_ne hk, ar_srg, ar_srg]
    have sr : ∀ k j, k ≠ 60 → rg σ3 k j = rg σ2 k j := fun k j hk => by
      rw [w1 k j (fun q => hk q.1), hs]
      rw [rg_s1 (fun q => hk q.1), rg_s1 (fun q => hk q.1), rg_s1 (fun q => hk q.1), rg_sar, rg_sar, rg_s1 (fun q => hk q.1), rg_s1 (fun q => hk q.1)]
    have sr60 : ∀ j, j ≠ 4 → j ≠ 5 → j ≠ 6 → j ≠ 7 → j ≠ 8 → rg σ3 60 j = rg σ2 60 j := fun j h1 h2 h3 h4 h5 => by
      rw [w1 60 j (fun q => by omega), hs]
      rw [rg_s1 (by omega), rg_s1 (by omega), rg_s1 (by omega), rg_sar, rg_sar, rg_s1 (by omega), rg_s1 (by omega)]
    have s61 : ∀ i, i ≠ 1 → i ≠ 3 → i ≠ 4 → i ≠ 201 + aW A → ¬ (206 + 140 * aW A ≤ i ∧ i < 346 + 140 * aW A) → ar σ3 61 i = ar σ 61 i := fun i h1 h2 h3 h4 h5 => by
      rw [w3 i h1 h3 h4 h5, hs]
      rw [ar_srg, ar_srg, ar_srg, ar_s1 (by omega), ar_s1 (by omega), ar_srg, ar_srg, a61]
    have s613 : ar σ3 61 3 = nI 0 := by
      rw [w3 3 (by omega) (by omega) (by omega) (by omega), hs, ar_srg, ar_srg, ar_srg, ar_s1 (by omega), ar_s2 ⟨rfl, rfl⟩]
      rfl
    have s611 : ar σ3 61 1 = nI (aW A + 1) := by
      rw [w4, hs, ar_srg, ar_srg, ar_srg, ar_s1 (by omega), ar_s1 (by omega), ar_srg, ar_srg, a61, m4, l_1, nI_add]
    have g9 : rg σ1 1 9 = nI (aW A) := (g1 1 9 (by decide) (by decide)).trans c4
    refine ⟨nI (aW A), σ2, σ3, ((aS A, aD A, 0, aW A + 1, aZ A), kd A, vv A, ii A, oo A, ld A, tp A, ti A, tu A, t), ?_, e3, ⟨⟨hS7, hD99, Nat.zero_le _, by show aW A + 1 ≤ 5; omega, hZ7⟩, hAS, fun i hi => absurd hi (Nat.not_lt_zero i), hAZ, hO, fun h => absurd h (by show ¬ aW A + 1 = 0; omega)⟩, ⟨⟨?_, ?_, ?_, ?_, ?_⟩, fun k hk => ?_, fun i hi => absurd hi (Nat.not_lt_zero i), fun i hi => ?_, ?_⟩, ⟨⟨?_, ?_, s613, s611, ?_, ?_⟩, fun k hk => ?_, fun i hi => absurd hi (Nat.not_lt_zero i), fun i hi => ?_, fun _ => ⟨?_, fun i hi => ?_⟩⟩, ?_, r, hr, ?_, ?_, fun i q1 q2 => ?_⟩
    · refine if_T hlt5 ?_
      rw [c3]
      refine bd2_k e1 (nm_k (if_T (by decide) ?_))
      rw [e2, g9, l_1, nI_add, pk_sub (by omega), Nat.add_sub_cancel]
    · rw [sr _ _ (by decide), x2 _ _ (by decide) (by omega), g1 _ _ (by decide) (by decide)]; exact c1
    · rw [sr _ _ (by decide), x2 _ _ (by decide) (by omega), g1 _ _ (by decide) (by decide)]; exact c2
    · rw [sr _ _ (by decide), x3.1.1]; rfl
    · rw [sr _ _ (by decide), x3.1.2, g9, l_1, nI_add]; rfl
    · rw [sr _ _ (by decide), x2 _ _ (by decide) (by omega), g1 _ _ (by decide) (by decide)]; exact c5
    · rw [sa _ (by decide), sa _ (by decide), sa _ (by decide), sa _ (by decide), sa _ (by decide), x3.2 _ (by decide), x3.2 _ (by decide), x3.2 _ (by decide), x3.2 _ (by decide), x3.2 _ (by decide), g2 _ (by decide) (by decide), g2 _ (by decide) (by decide), g2 _ (by decide) (by decide), g2 _ (by decide) (by decide), g2 _ (by decide) (by decide)]
      exact cS k hk
    · rw [sa _ (by decide), sa _ (by decide), x3.2 _ (by decide), x3.2 _ (by decide), g2 _ (by decide) (by decide), g2 _ (by decide) (by decide)]
      exact cZ i hi
    · exact x1.same (sr 3 0 (by decide)) (sr 3 4 (by decide)) (fun k hk => sa _ (by omega))
    · rw [s61 0 (by omega) (by omega) (by omega) (by omega) (by omega)]; exact m1
    · rw [s61 5 (by omega) (by omega) (by omega) (by omega) (by omega)]; exact m2
    · rw [s61 2 (by omega) (by omega) (by omega) (by omega) (by omega)]; exact m5
    · rw [w5]
      show nI (aW A) = nI (aW A + 1) - 1
      rw [l_1, pk_sub (by omega), Nat.add_sub_cancel]
    · have hk' : k < aS A := hk
      obtain ⟨d1, d2, d3, d4, d5⟩ := mS k hk'
      refine ⟨?_, ?_, ?_, ?_, fun j hj => ?_⟩
      · rw [s61 _ (by omega) (by omega) (by omega) (by omega) (by omega)]; exact d1
      · rw [s61 _ (by omega) (by omega) (by omega) (by omega) (by omega)]; exact d2
      · rw [s61 _ (by omega) (by omega) (by omega) (by omega) (by omega)]; exact d3
      · rw [s61 _ (by omega) (by omega) (by omega) (by omega) (by omega)]; exact d4
      · have hj' : j < aS A := hj
        rw [s61 _ (by omega) (by omega) (by omega) (by omega) (by omega)]; exact d5 j hj
    · have hi' : i < aZ A := hi
      rw [s61 _ (by omega) (by omega) (by omega) (by omega) (by omega), s61 _ (by omega) (by omega) (by omega) (by omega) (by omega)]
      exact mZ i hi
    · exact w6
    · exact w7 i hi
    · obtain ⟨k0, hK⟩ := hK
      refine ⟨by rw [sa 38 (by decide), x3.2 38 (by decide)]; exact g3, ?_⟩
      rw [sr 0 2 (by decide), x2 0 2 (by decide) (by omega), g1 0 2 (by decide) (by decide), sr60 3 (by decide) (by decide) (by decide) (by decide) (by decide), x2 60 3 (by decide) (by omega), g1 60 3 (by decide) (by decide)]
      rcases hK with hK | ⟨ka, kb, B, kc, kd, ke⟩
      · exact Or.inl hK
      · refine Or.inr ⟨ka, kb, B, kc, kd.same (fun j => ?_) (fun k hk => ?_) (fun j => ?_) (fun k hk => ?_), ke.same ?_⟩
        · rw [sr _ _ (by decide), x2 _ _ (by decide) (by omega), g1 _ _ (by decide) (by decide)]
        · rw [sa _ (by omega), x3.2 _ (by omega), g2 _ (by omega) (by omega)]
        · rw [sr _ _ (by decide), x2 _ _ (by decide) (by omega), g1 _ _ (by decide) (by decide)]
        · rw [sa _ (by omega), x3.2 _ (by omega), g2 _ (by omega) (by omega)]
        · rw [sa _ (by decide), x3.2 _ (by decide), g2 _ (by decide) (by decide)]
    · rw [sr _ _ (by decide), x2 _ _ (by decide) (by omega), g1 _ _ (by decide) (by decide)]; exact r1
    · rw [sr60 34 (by decide) (by decide) (by decide) (by decide) (by decide), x2 _ _ (by decide) (by omega), g1 _ _ (by decide) (by decide)]; exact r2
    · rw [sa 59 (by decide), sa 82 (by decide), x3.2 59 (by decide), x3.2 82 (by decide), g2 59 (by decide) (by decide), g2 82 (by decide) (by decide)]
      exact r3 i q1 q2
  · rw [if_neg hok] at e1
    have a61 : ar (srg σ1 1 7 0) 61 = ar σ 61 := g2 61 (by decide) (by decide)
    obtain ⟨s, σ3, hs, e3, h3⟩ := model (srg σ1 1 7 0) a61
    rcases h3 with ⟨h3, -⟩ | ⟨-, w1, w2, w3⟩
    · exact absurd h3 hok
    rw [if_neg hok] at e3
    have sa : ∀ k, k ≠ 61 → ar σ3 k = ar σ1 k := fun k hk => by
      rw [w2 k hk, hs]
      rw [ar_srg, ar_srg, ar_srg, ar_sar_ne hk, ar_sar_ne hk, ar_srg, ar_srg, ar_srg]
    have sr : ∀ k j, k ≠ 60 → ¬ (k = 1 ∧ j = 7) → rg σ3 k j = rg σ1 k j := fun k j hk h7 => by
      rw [w1 k j (fun q => hk q.1), hs]
      rw [rg_s1 (fun q => hk q.1), rg_s1 (fun q => hk q.1), rg_s1 (fun q => hk q.1), rg_sar, rg_sar, rg_s1 (fun q => hk q.1), rg_s1 (fun q => hk q.1), rg_s1 h7]
    have sr17 : rg σ3 1 7 = nI 0 := by
      rw [w1 1 7 (by omega), hs]
      rw [rg_s1 (by omega), rg_s1 (by omega), rg_s1 (by omega), rg_sar, rg_sar, rg_s1 (by omega), rg_s1 (by omega), rg_s2 ⟨rfl, rfl⟩]
      rfl
    have sr60 : ∀ j, j ≠ 4 → j ≠ 5 → j ≠ 6 → j ≠ 7 → j ≠ 8 → rg σ3 60 j = rg σ1 60 j := fun j h1 h2 h3 h4 h5 => by
      rw [w1 60 j (fun q => by omega), hs]
      rw [rg_s1 (by omega), rg_s1 (by omega), rg_s1 (by omega), rg_sar, rg_sar, rg_s1 (by omega), rg_s1 (by omega), rg_s1 (by omega)]
    have s61 : ∀ i, i ≠ 3 → i ≠ 201 + aW A → ¬ (206 + 140 * aW A ≤ i ∧ i < 346 + 140 * aW A) → ar σ3 61 i = ar σ 61 i := fun i h2 h4 h5 => by
      rw [w3 i h4 h5, hs]
      rw [ar_srg, ar_srg, ar_srg, ar_s1 (by omega), ar_s1 (by omega), ar_srg, ar_srg, a61]
    have s613 : ar σ3 61 3 = nI 0 := by
      rw [w3 3 (by omega) (by omega), hs, ar_srg, ar_srg, ar_srg, ar_s1 (by omega), ar_s2 ⟨rfl, rfl⟩]
      rfl
    have htl := twM_len (tw A)
    have hl10 := hAW.1
    have hc100 := hAW.2.1
    refine ⟨-10 - nI (aTown (tp A) (aT A) 10 [] 0).2.1, srg σ1 1 7 0, σ3, ((aS A, aD A, 0, aW A, aZ A), kd A, vv A, ii A, oo A, ld A, tp A, ti A, tu A, tw A), ?_, e3, ⟨⟨hS7, hD99, Nat.zero_le _, hW5, hZ7⟩, hAS, fun i hi => absurd hi (Nat.not_lt_zero i), hAZ, hAW, hAW0⟩, ⟨⟨?_, ?_, sr17, ?_, ?_⟩, fun k hk => ?_, fun i hi => absurd hi (Nat.not_lt_zero i), fun i hi => ?_, ?_⟩, ⟨⟨?_, ?_, s613, ?_, ?_, ?_⟩, fun k hk => ?_, fun i hi => absurd hi (Nat.not_lt_zero i), fun i hi => ?_, fun h0 => ⟨?_, fun i hi => ?_⟩⟩, ?_, r, hr, ?_, ?_, fun i q1 q2 => ?_⟩
    · refine if_T hlt5 ?_
      rw [c3]
      refine bd2_k e1 (nm_k (if_F (of_eq_false (ilt_F (Nat.zero_le _) (by omega))) rfl))
    · rw [sr _ _ (by decide) (by omega), g1 _ _ (by decide) (by decide)]; exact c1
    · rw [sr _ _ (by decide) (by omega), g1 _ _ (by decide) (by decide)]; exact c2
    · rw [sr _ _ (by decide) (by omega), g1 _ _ (by decide) (by decide)]; exact c4
    · rw [sr _ _ (by decide) (by omega), g1 _ _ (by decide) (by decide)]; exact c5
    · rw [sa _ (by decide), sa _ (by decide), sa _ (by decide), sa _ (by decide), sa _ (by decide), g2 _ (by decide) (by decide), g2 _ (by decide) (by decide), g2 _ (by decide) (by decide), g2 _ (by decide) (by decide), g2 _ (by decide) (by decide)]
      exact cS k hk
    · rw [sa _ (by decide), sa _ (by decide), g2 _ (by decide) (by decide), g2 _ (by decide) (by decide)]
      exact cZ i hi
    · refine cW.same ?_ ?_ (fun k hk => ?_)
      · rw [sr _ _ (by decide) (by omega), g1 _ _ (by decide) (by decide)]
      · rw [sr _ _ (by decide) (by omega), g1 _ _ (by decide) (by decide)]
      · rw [sa _ (by omega), g2 _ (by omega) (by omega)]
    · rw [s61 0 (by omega) (by omega) (by omega)]; exact m1
    · rw [s61 5 (by omega) (by omega) (by omega)]; exact m2
    · rw [s61 1 (by omega) (by omega) (by omega)]; exact m4
    · rw [s61 2 (by omega) (by omega) (by omega)]; exact m5
    · rw [s61 4 (by omega) (by omega) (by omega)]; exact m6
    · have hk' : k < aS A := hk
      obtain ⟨d1, d2, d3, d4, d5⟩ := mS k hk'
      refine ⟨?_, ?_, ?_, ?_, fun j hj => ?_⟩
      · rw [s61 _ (by omega) (by omega) (by omega)]; exact d1
      · rw [s61 _ (by omega) (by omega) (by omega)]; exact d2
      · rw [s61 _ (by omega) (by omega) (by omega)]; exact d3
      · rw [s61 _ (by omega) (by omega) (by omega)]; exact d4
      · have hj' : j < aS A := hj
        rw [s61 _ (by omega) (by omega) (by omega)]; exact d5 j hj
    · have hi' : i < aZ A := hi
      rw [s61 _ (by omega) (by omega) (by omega), s61 _ (by omega) (by omega) (by omega)]
      exact mZ i hi
    · have h0' : 0 < aW A := h0
      show ar σ3 61 (201 + (aW A - 1)) = _
      rw [s61 _ (by omega) (by omega) (by omega)]
      exact (mW h0').1
    · have h0' : 0 < aW A := h0
      have hi' : i < (twM (tw A)).length := hi
      show ar σ3 61 (206 + 140 * (aW A - 1) + i) = _
      rw [s61 _ (by omega) (by omega) (by omega)]
      exact (mW h0').2 i hi
    · obtain ⟨k0, hK⟩ := hK
      refine ⟨by rw [sa 38 (by decide)]; exact g3, ?_⟩
      rw [sr 0 2 (by decide) (by omega), g1 0 2 (by decide) (by decide), sr60 3 (by decide) (by decide) (by decide) (by decide) (by decide), g1 60 3 (by decide) (by decide)]
      rcases hK with hK | ⟨ka, kb, B, kc, kd, ke⟩
      · exact Or.inl hK
      · refine Or.inr ⟨ka, kb, B, kc, kd.same (fun j => ?_) (fun k hk => ?_) (fun j => ?_) (fun k hk => ?_), ke.same ?_⟩
        · rw [sr _ _ (by decide) (by omega), g1 _ _ (by decide) (by decide)]
        · rw [sa _ (by omega), g2 _ (by omega) (by omega)]
        · rw [sr _ _ (by decide) (by omega), g1 _ _ (by decide) (by decide)]
        · rw [sa _ (by omega), g2 _ (by omega) (by omega)]
        · rw [sa _ (by decide), g2 _ (by decide) (by decide)]
    · rw [sr _ _ (by decide) (by omega), g1 _ _ (by decide) (by decide)]; exact r1
    · rw [sr60 34 (by decide) (by decide) (by decide) (by decide) (by decide), g1 _ _ (by decide) (by decide)]; exact r2
    · rw [sa 59 (by decide), sa 82 (by decide), g2 59 (by decide) (by decide), g2 82 (by decide) (by decide)]
      exact r3 i q1 q2
