/-! towns: the model's reader -/
def MB (T : Nat → Nat) (e act : Nat) (σ : Sg) : Prop := rg σ 60 4 = nI act ∧ rg σ 60 6 = nI e ∧ ∀ i, i < e → ar σ 61 (101 + i) = nI (T i)
def MS (T : Nat → Nat) (e act p cnt opn : Nat) (σ : Sg) : Prop := MB T e act σ ∧ rg σ 60 5 = nI p ∧ rg σ 60 7 = nI 0 ∧ rg σ 60 8 = nI opn ∧ ar σ 61 (201 + act) = nI cnt
def WR (T : Nat → Nat) (e act p : Nat) (σ : Sg) : Prop := MB T e act σ ∧ rg σ 60 5 = nI p ∧ rg σ 60 7 = nI 1
/-- what the model's reader may change -/
def FM (act : Nat) (σ σ' : Sg) : Prop := (∀ k j, ¬ (k = 60 ∧ (j = 5 ∨ j = 7 ∨ j = 8)) → rg σ' k j = rg σ k j) ∧ (∀ k, k ≠ 61 → ar σ' k = ar σ k) ∧ ∀ i, i ≠ 201 + act → ¬ (206 + 140 * act ≤ i ∧ i < 346 + 140 * act) → ar σ' 61 i = ar σ 61 i
theorem FM.rf (act : Nat) (σ : Sg) : FM act σ σ := ⟨fun _ _ _ => rfl, fun _ _ => rfl, fun _ _ _ => rfl⟩
theorem FM.tr {act : Nat} {a b c : Sg} (h : FM act a b) (g : FM act b c) : FM act a c := ⟨fun k j q => (g.1 k j q).trans (h.1 k j q), fun k q => (g.2.1 k q).trans (h.2.1 k q), fun i q1 q2 => (g.2.2 i q1 q2).trans (h.2.2 i q1 q2)⟩
theorem FM.srg {act : Nat} {a b : Sg} (h : FM act a b) {j : Nat} (v : Int32) (hj : j = 5 ∨ j = 7 ∨ j = 8) : FM act a (srg b 60 j v) := ⟨fun k i q => (rg_s1 (fun w => q ⟨w.1, by omega⟩)).trans (h.1 k i q), h.2.1, h.2.2⟩
theorem MB.fm {T : Nat → Nat} {e act : Nat} {σ σ' : Sg} (h : MB T e act σ) (he : e ≤ 100) (g : FM act σ σ') : MB T e act σ' := ⟨(g.1 _ _ (by omega)).trans h.1, (g.1 _ _ (by omega)).trans h.2.1, fun i hi => (g.2.2 _ (by omega) (by omega)).trans (h.2.2 i hi)⟩
/-- what is written: l behind the first cnt -/
def EM (act cnt : Nat) (l : List Int32) (σ σ' : Sg) : Prop := (∀ i, i < cnt → ar σ' 61 (206 + 140 * act + i) = ar σ 61 (206 + 140 * act + i)) ∧ ∀ i, i < l.length → ar σ' 61 (206 + 140 * act + (cnt + i)) = l.getD i 0
theorem EM.nil {act cnt : Nat} {σ σ' : Sg} (h : ar σ' 61 = ar σ 61) : EM act cnt [] σ σ' := ⟨fun i _ => by rw [h], fun i hi => absurd hi (Nat.not_lt_zero i)⟩
theorem EM.app {act cnt : Nat} {l l2 : List Int32} {a b c : Sg} (h : EM act cnt l a b) (g : EM act (cnt + l.length) l2 b c) : EM act cnt (l ++ l2) a c := by
  refine ⟨fun i hi => (g.1 i (by omega)).trans (h.1 i hi), fun i hi => ?_⟩
  rw [List.length_append] at hi
  by_cases q : i < l.length
  · rw [getD_lt _ _ _ _ q, g.1 (cnt + i) (by omega)]
    exact h.2 i q
  · have k := g.2 (i - l.length) (by omega)
    rw [show cnt + l.length + (i - l.length) = cnt + i by omega] at k
    rw [k, List.getD_eq_getElem?_getD, List.getD_eq_getElem?_getD, List.getElem?_append_right (by omega)]
theorem EM.eq {act cnt : Nat} {l : List Int32} {a b c : Sg} (h : EM act cnt l a b) (g : ar c 61 = ar b 61) : EM act cnt l a c := ⟨fun i hi => by rw [g]; exact h.1 i hi, fun i hi => by rw [g]; exact h.2 i hi⟩
theorem EM.eq0 {act cnt : Nat} {l : List Int32} {a b c : Sg} (h : EM act cnt l b c) (g : ar b 61 = ar a 61) : EM act cnt l a c := ⟨fun i hi => by rw [← g]; exact h.1 i hi, h.2⟩
def hV (T : Nat → Nat) (e p : Nat) : Int32 := if p < e then nI (T p) else -1
theorem x_here {N e p act : Nat} {T : Nat → Nat} {σ : Sg} (he : e ≤ 100) (hp : p ≤ e) (hact : act ≤ 4) (h : MB T e act σ) (h5 : rg σ 60 5 = nI p) : f_X7_here N σ = some (hV T e p, σ) := by
  unfold f_X7_here hV
  rw [h.2.1, h5]
  by_cases q : p < e
  · rw [if_pos q, l_101, nI_add, nI_clamp (by omega), h.2.2 p q]
    exact if_F (of_eq_false (ile_F q (by omega))) (gd_k (inb_nI (by omega) (by decide)) rfl)
  · rw [if_neg q]
    exact if_T (of_eq_true (ile_T (by omega) (by omega))) rfl
theorem hV_T {T : Nat → Nat} {e p c : Nat} (h : cAt T e p c = true) : hV T e p = nI c := by
  obtain ⟨h1, h2⟩ := cAt_lt h
  unfold hV
  rw [if_pos h1, h2]
theorem hV_F {T : Nat → Nat} {e p c : Nat} (hT : ∀ i, i < e → T i < 128) (hc : c < 128) (h : ¬ cAt T e p c = true) : ¬ hV T e p = nI c := by
  have hn := cAt_F (bF h)
  unfold hV
  by_cases q : p < e
  · rw [if_pos q]
    have := hT p q
    exact of_eq_false (ieq_F (fun w => hn ⟨q, w⟩) (by omega) (by omega))
  · rw [if_neg q]
    exact fun w => i_nn (by omega) (x := -1) (by decide) w.symm
theorem hV_dT {N : Nat} {T : Nat → Nat} {e p : Nat} {σ : Sg} (h : dgt T e p = true) : f_X7_in N (hV T e p) 48 57 σ = some (nI 1, σ) ∧ hV T e p = nI (T p) := by
  obtain ⟨h1, h2, h3⟩ := dgt_lt h
  have e1 : hV T e p = nI (T p) := if_pos h1
  rw [e1]
  exact ⟨x_in_T h2 h3 (by decide), rfl⟩
theorem hV_dF {N : Nat} {T : Nat → Nat} {e p : Nat} {σ : Sg} (hT : ∀ i, i < e → T i < 128) (h : ¬ dgt T e p = true) : f_X7_in N (hV T e p) 48 57 σ = some (nI 0, σ) := by
  have hn := dgt_F h
  by_cases q : p < e
  · have e1 : hV T e p = nI (T p) := if_pos q
    have := hT p q
    rw [e1]
    exact x_in_F (by omega : T p < 48 ∨ 57 < T p) (by omega) (by decide) (by decide)
  · have e1 : hV T e p = -1 := if_neg q
    rw [e1]
    exact x_in_lo (by decide) (by decide) _
theorem MS.mv {T : Nat → Nat} {e act p cnt opn q : Nat} {σ : Sg} (h : MS T e act p cnt opn σ) : MS T e act q cnt opn (srg σ 60 5 (nI q)) := ⟨⟨(rg_s1 (by omega)).trans h.1.1, (rg_s1 (by omega)).trans h.1.2.1, h.1.2.2⟩, rg_s2 ⟨rfl, rfl⟩, (rg_s1 (by omega)).trans h.2.2.1, (rg_s1 (by omega)).trans h.2.2.2.1, h.2.2.2.2⟩
theorem MS.z7 {T : Nat → Nat} {e act p cnt opn : Nat} {σ : Sg} (h : MS T e act p cnt opn σ) : MS T e act p cnt opn (srg σ 60 7 (nI 0)) := ⟨⟨(rg_s1 (by omega)).trans h.1.1, (rg_s1 (by omega)).trans h.1.2.1, h.1.2.2⟩, (rg_s1 (by omega)).trans h.2.1, rg_s2 ⟨rfl, rfl⟩, (rg_s1 (by omega)).trans h.2.2.2.1, h.2.2.2.2⟩
theorem MS.op {T : Nat → Nat} {e act p cnt opn o2 : Nat} {σ : Sg} (h : MS T e act p cnt opn σ) : MS T e act p cnt o2 (srg σ 60 8 (nI o2)) := ⟨⟨(rg_s1 (by omega)).trans h.1.1, (rg_s1 (by omega)).trans h.1.2.1, h.1.2.2⟩, (rg_s1 (by omega)).trans h.2.1, (rg_s1 (by omega)).trans h.2.2.1, rg_s2 ⟨rfl, rfl⟩, h.2.2.2.2⟩
theorem MB.w7 {T : Nat → Nat} {e act p : Nat} {σ : Sg} (h : MB T e act σ) (h5 : rg σ 60 5 = nI p) : WR T e act p (srg σ 60 7 (nI 1)) := ⟨⟨(rg_s1 (by omega)).trans h.1, (rg_s1 (by omega)).trans h.2.1, h.2.2⟩, (rg_s1 (by omega)).trans h5, rg_s2 ⟨rfl, rfl⟩⟩
theorem WR.p5 {T : Nat → Nat} {e act p : Nat} {σ : Sg} (h : WR T e act p σ) : WR T e act p (srg σ 60 5 (nI p)) := ⟨⟨(rg_s1 (by omega)).trans h.1.1, (rg_s1 (by omega)).trans h.1.2.1, h.1.2.2⟩, rg_s2 ⟨rfl, rfl⟩, (rg_s1 (by omega)).trans h.2.2⟩
theorem WR.op {T : Nat → Nat} {e act p : Nat} {σ : Sg} (h : WR T e act p σ) (v : Int32) : WR T e act p (srg σ 60 8 v) := ⟨⟨(rg_s1 (by omega)).trans h.1.1, (rg_s1 (by omega)).trans h.1.2.1, h.1.2.2⟩, (rg_s1 (by omega)).trans h.2.1, (rg_s1 (by omega)).trans h.2.2⟩
/-- it goes on where wrong: nothing is read -/
def Wf (T : Nat → Nat) (e act : Nat) (f : Sg → Option Sg) : Prop := ∀ p σ, WR T e act p σ → ∃ σ', f σ = some σ' ∧ FM act σ σ' ∧ WR T e act p σ'
/-- behind a step: read as r says, or wrong -/
def Mo (T : Nat → Nat) (e act cnt opn : Nat) (σ : Sg) (o : Option Sg) (b : Bool) (q : Nat) (l : List Int32) : Prop := ∃ σ', o = some σ' ∧ FM act σ σ' ∧ ((b = true ∧ MS T e act q (cnt + l.length) opn σ' ∧ EM act cnt l σ σ') ∨ (b = false ∧ WR T e act q σ'))
def Mf (T : Nat → Nat) (e act : Nat) (f : Sg → Option Sg) (r : Nat → Rs) (opn : Nat) : Prop := ∀ p cnt σ, MS T e act p cnt opn σ → cnt ≤ p → p ≤ e → Mo T e act cnt opn σ (f σ) (r p).1 (r p).2.1 ((r p).2.2.map cm1)
theorem x_mustW {N e act c : Nat} {T : Nat → Nat} : Wf T e act (f_X7_must N (nI c)) := by
  intro p σ h
  refine ⟨srg (srg σ 60 7 (nI 1)) 60 5 (nI p), ?_, ((FM.rf act σ).srg _ (by omega)).srg _ (by omega), ((h.1.w7 h.2.1)).p5⟩
  unfold f_X7_must b_X7_must_16 b_X7_must_21
  refine if_F (by rw [h.2.2]; decide) (gd_k (by decide) (nm_k (if_F (by rw [rg_s2 ⟨rfl, rfl⟩]; decide) (nm_k ?_))))
  rw [rg_s1 (by omega), h.2.1, l_0, nI_add]
  rfl
theorem x_must {N e p cnt opn act c : Nat} {T : Nat → Nat} {σ : Sg} (he : e ≤ 100) (hp : p ≤ e) (hT : ∀ i, i < e → T i < 128) (hact : act ≤ 4) (hc : c < 128) (h : MS T e act p cnt opn σ) : Mo T e act cnt opn σ (f_X7_must N (nI c) σ) (cAt T e p c) (if cAt T e p c = true then p + 1 else p) [] := by
  have hh := x_here (N := N) he hp hact h.1 h.2.1
  unfold f_X7_must b_X7_must_16 b_X7_must_21
  by_cases q : cAt T e p c = true
  · rw [q, if_pos rfl]
    have hm : MS T e act (p + 1) cnt opn (srg (srg σ 60 7 (nI 0)) 60 5 (nI (p + 1))) := h.z7.mv
    refine ⟨_, if_T (by rw [h.2.2.1]; decide) (bd2_k hh (if_T (hV_T q) (gd_k (by decide) (nm_k (if_T (rg_s2 ⟨rfl, rfl⟩) (nm_k ?_)))))), ((FM.rf act σ).srg _ (by omega)).srg _ (by omega), Or.inl ⟨rfl, hm, EM.nil rfl⟩⟩
    rw [rg_s1 (by omega), h.2.1, l_1, nI_add]
    rfl
  · rw [bF q, if_neg Bool.false_ne_true]
    refine ⟨_, if_T (by rw [h.2.2.1]; decide) (bd2_k hh (if_F (hV_F hT hc q) (gd_k (by decide) (nm_k (if_F (by rw [rg_s2 ⟨rfl, rfl⟩]; decide) (nm_k ?_)))))), ((FM.rf act σ).srg _ (by omega)).srg _ (by omega), Or.inr ⟨rfl, (h.1.w7 h.2.1).p5⟩⟩
    rw [rg_s1 (by omega), h.2.1, l_0, nI_add]
    rfl
theorem x_emitW {N e act : Nat} {T : Nat → Nat} (v : Int32) : Wf T e act (f_X7_emits N v) := by
  intro p σ h
  refine ⟨σ, ?_, FM.rf act σ, h⟩
  unfold f_X7_emits
  exact if_F (by rw [h.2.2]; decide) rfl
theorem x_emit {N e p cnt opn act : Nat} {T : Nat → Nat} {σ : Sg} (hact : act ≤ 4) (hcnt : cnt < 140) (v : Int32) (h : MS T e act p cnt opn σ) (he : e ≤ 100) : Mo T e act cnt opn σ (f_X7_emits N v σ) true p [v] := by
  have o1 : FM act σ (sar (sar σ 61 (206 + 140 * act + cnt) v) 61 (201 + act) (nI (cnt + 1))) := ⟨fun _ _ _ => rfl, fun k hk => by rw [ar_sar_ne hk, ar_sar_ne hk], fun i h1 h2 => by rw [ar_s1 (by omega), ar_s1 (by omega)]⟩
  refine ⟨sar (sar σ 61 (206 + 140 * act + cnt) v) 61 (201 + act) (nI (cnt + 1)), ?_, o1, Or.inl ⟨rfl, ⟨h.1.fm he o1, h.2.1, h.2.2.1, h.2.2.2.1, ar_s2 ⟨rfl, rfl⟩⟩, fun i hi => by rw [ar_s1 (by omega), ar_s1 (by omega)], fun i hi => ?_⟩⟩
  · unfold f_X7_emits
    refine if_T (by rw [h.2.2.1]; decide) ?_
    rw [h.1.1, l_201, l_206, l_140, pk_mul, nI_add, nI_add, nI_clamp (by omega), h.2.2.2.2, nI_add]
    refine gd_k (inb_nI (by omega) (by decide)) (gd_k (inb_nI (by omega) (by decide)) (nm_k ?_))
    rw [nI_clamp (by omega)]
    rw [show rg (sar σ 61 (206 + 140 * act + cnt) v) 60 4 = nI act from h.1.1, nI_add, nI_clamp (by omega), ar_s1 (by omega), h.2.2.2.2, l_1, nI_add]
    exact gd_k (inb_nI (by omega) (by decide)) (gd_k (inb_nI (by omega) (by decide)) (nm_k rfl))
  · have : i = 0 := by
      have : i < 1 := hi
      omega
    subst this
    rw [ar_s1 (by omega), Nat.add_zero, ar_s2 ⟨rfl, by omega⟩]
    rfl

theorem x_among {N e p act : Nat} {T : Nat → Nat} {σ : Sg} (he : e ≤ 100) (hp : p ≤ e) (hT : ∀ i, i < e → T i < 128) (hact : act ≤ 4) (h : MB T e act σ) (h5 : rg σ 60 5 = nI p) : f_X7_among (N + 8) σ = some (match aOne T e p [115, 107, 117, 100, 108] 0 with
    | none => (-1, σ)
    | some i => (nI i, srg σ 60 5 (nI (p + 1)))) := by
  have hh := x_here (N := N + 8) he hp hact h h5
  show b_X7_among_2b (N + 8) (b_X7_among_2 (N + 8) (N + 7)) 0 σ = _
  unfold b_X7_among_2b
  refine if_F (by decide) (bd2_k hh (gd_k (by decide) ?_))
  by_cases c0 : cAt T e p 115 = true
  · rw [show aOne T e p [115, 107, 117, 100, 108] 0 = some 0 from if_pos c0, hV_T c0, h5, l_1, nI_add]
    exact if_T (by decide) (nm_k rfl)
  rw [show aOne T e p [115, 107, 117, 100, 108] 0 = aOne T e p [107, 117, 100, 108] 1 from if_neg c0]
  refine if_F (hV_F (c := 115) hT (by decide) c0) (nm_k ?_)
  show b_X7_among_2b (N + 8) (b_X7_among_2 (N + 8) (N + 6)) 1 σ = _
  unfold b_X7_among_2b
  refine if_F (by decide) (bd2_k hh (gd_k (by decide) ?_))
  by_cases c1 : cAt T e p 107 = true
  · rw [show aOne T e p [107, 117, 100, 108] 1 = some 1 from if_pos c1, hV_T c1, h5, l_1, nI_add]
    exact if_T (by decide) (nm_k rfl)
  rw [show aOne T e p [107, 117, 100, 108] 1 = aOne T e p [117, 100, 108] 2 from if_neg c1]
  refine if_F (hV_F (c := 107) hT (by decide) c1) (nm_k ?_)
  show b_X7_among_2b (N + 8) (b_X7_among_2 (N + 8) (N + 5)) 2 σ = _
  unfold b_X7_among_2b
  refine if_F (by decide) (bd2_k hh (gd_k (by decide) ?_))
  by_cases c2 : cAt T e p 117 = true
  · rw [show aOne T e p [117, 100, 108] 2 = some 2 from if_pos c2, hV_T c2, h5, l_1, nI_add]
    exact if_T (by decide) (nm_k rfl)
  rw [show aOne T e p [117, 100, 108] 2 = aOne T e p [100, 108] 3 from if_neg c2]
  refine if_F (hV_F (c := 117) hT (by decide) c2) (nm_k ?_)
  show b_X7_among_2b (N + 8) (b_X7_among_2 (N + 8) (N + 4)) 3 σ = _
  unfold b_X7_among_2b
  refine if_F (by decide) (bd2_k hh (gd_k (by decide) ?_))
  by_cases c3 : cAt T e p 100 = true
  · rw [show aOne T e p [100, 108] 3 = some 3 from if_pos c3, hV_T c3, h5, l_1, nI_add]
    exact if_T (by decide) (nm_k rfl)
  rw [show aOne T e p [100, 108] 3 = aOne T e p [108] 4 from if_neg c3]
  refine if_F (hV_F (c := 100) hT (by decide) c3) (nm_k ?_)
  show b_X7_among_2b (N + 8) (b_X7_among_2 (N + 8) (N + 3)) 4 σ = _
  unfold b_X7_among_2b
  refine if_F (by decide) (bd2_k hh (gd_k (by decide) ?_))
  by_cases c4 : cAt T e p 108 = true
  · rw [show aOne T e p [108] 4 = some 4 from if_pos c4, hV_T c4, h5, l_1, nI_add]
    exact if_T (by decide) (nm_k rfl)
  rw [show aOne T e p [108] 4 = none from if_neg c4]
  refine if_F (hV_F (c := 108) hT (by decide) c4) (nm_k ?_)
  show b_X7_among_2b (N + 8) (b_X7_among_2 (N + 8) (N + 2)) 5 σ = _
  unfold b_X7_among_2b
  exact if_T (by decide) rfl
theorem x_among1 {N e p act : Nat} {T : Nat → Nat} {σ : Sg} (he : e ≤ 100) (hp : p ≤ e) (hT : ∀ i, i < e → T i < 128) (hact : act ≤ 4) (h : MB T e act σ) (h5 : rg σ 60 5 = nI p) : f_X7_among_v1 (N + 8) σ = some (match aOne T e p [60, 61, 62] 0 with
    | none => (-1, σ)
    | some i => (nI i, srg σ 60 5 (nI (p + 1)))) := by
  have hh := x_here (N := N + 8) he hp hact h h5
  show b_X7_among_v1_2b (N + 8) (b_X7_among_v1_2 (N + 8) (N + 7)) 0 σ = _
  unfold b_X7_among_v1_2b
  refine if_F (by decide) (bd2_k hh (gd_k (by decide) ?_))
  by_cases c0 : cAt T e p 60 = true
  · rw [show aOne T e p [60, 61, 62] 0 = some 0 from if_pos c0, hV_T c0, h5, l_1, nI_add]
    exact if_T (by decide) (nm_k rfl)
  rw [show aOne T e p [60, 61, 62] 0 = aOne T e p [61, 62] 1 from if_neg c0]
  refine if_F (hV_F (c := 60) hT (by decide) c0) (nm_k ?_)
  show b_X7_among_v1_2b (N + 8) (b_X7_among_v1_2 (N + 8) (N + 6)) 1 σ = _
  unfold b_X7_among_v1_2b
  refine if_F (by decide) (bd2_k hh (gd_k (by decide) ?_))
  by_cases c1 : cAt T e p 61 = true
  · rw [show aOne T e p [61, 62] 1 = some 1 from if_pos c1, hV_T c1, h5, l_1, nI_add]
    exact if_T (by decide) (nm_k rfl)
  rw [show aOne T e p [61, 62] 1 = aOne T e p [62] 2 from if_neg c1]
  refine if_F (hV_F (c := 61) hT (by decide) c1) (nm_k ?_)
  show b_X7_among_v1_2b (N + 8) (b_X7_among_v1_2 (N + 8) (N + 5)) 2 σ = _
  unfold b_X7_among_v1_2b
  refine if_F (by decide) (bd2_k hh (gd_k (by decide) ?_))
  by_cases c2 : cAt T e p 62 = true
  · rw [show aOne T e p [62] 2 = some 2 from if_pos c2, hV_T c2, h5, l_1, nI_add]
    exact if_T (by decide) (nm_k rfl)
  rw [show aOne T e p [62] 2 = none from if_neg c2]
  refine if_F (hV_F (c := 62) hT (by decide) c2) (nm_k ?_)
  show b_X7_among_v1_2b (N + 8) (b_X7_among_v1_2 (N + 8) (N + 4)) 3 σ = _
  unfold b_X7_among_v1_2b
  exact if_T (by decide) rfl
theorem x_figW {N e p act : Nat} {T : Nat → Nat} {σ : Sg} (h : WR T e act p σ) : ∃ v σ', f_X7_figures (N + 8) σ = some (v, σ') ∧ FM act σ σ' ∧ WR T e act p σ' := by
  refine ⟨0, srg σ 60 7 (nI 1), ?_, (FM.rf act σ).srg _ (by omega), h.1.w7 h.2.1⟩
  unfold f_X7_figures b_X7_figures_22 b_X7_figures_27
  refine if_F (by rw [h.2.2]; decide) (gd_k (by decide) (nm_k ?_))
  show b_X7_figures_34b (N + 8) (b_X7_figures_34 (N + 8) (N + 7)) 0 0 _ = _
  unfold b_X7_figures_34b
  exact if_F (by decide) (if_F (by rw [rg_s2 ⟨rfl, rfl⟩]; decide) rfl)
theorem x_fig {N e p cnt opn act : Nat} {T : Nat → Nat} {σ : Sg} (he : e ≤ 100) (hp : p ≤ e) (hT : ∀ i, i < e → T i < 128) (hact : act ≤ 4) (h : MS T e act p cnt opn σ) : ∃ v σ', f_X7_figures (N + 8) σ = some (v, σ') ∧ FM act σ σ' ∧ (((aNum T e p).1 = true ∧ v = nI (aNum T e p).2.2 ∧ MS T e act (aNum T e p).2.1 cnt opn σ' ∧ ar σ' 61 = ar σ 61) ∨ ((aNum T e p).1 = false ∧ WR T e act (aNum T e p).2.1 σ')) := by
  have hh := x_here (N := N + 8) he hp hact h.1 h.2.1
  unfold f_X7_figures b_X7_figures_22 b_X7_figures_27
  by_cases hd : dgt T e p = true
  case neg =>
    have ea : aNum T e p = (false, p, 0) := if_neg hd
    rw [ea]
    refine ⟨0, srg σ 60 7 (nI 1), if_T (by rw [h.2.2.1]; decide) (bd2_k hh (bd2_k (hV_dF hT hd) (if_T n00 (gd_k (by decide) (nm_k ?_))))), (FM.rf act σ).srg _ (by omega), Or.inr ⟨rfl, h.1.w7 h.2.1⟩⟩
    show b_X7_figures_34b (N + 8) (b_X7_figures_34 (N + 8) (N + 7)) 0 0 _ = _
    unfold b_X7_figures_34b
    exact if_F (by decide) (if_F (by rw [rg_s2 ⟨rfl, rfl⟩]; decide) rfl)
  obtain ⟨d1, d2, d3⟩ := dgt_lt hd
  have hin := hV_dT (N := N + 8) (σ := σ) hd
  have m1 := h.z7
  have f1 : FM act σ (srg σ 60 7 (nI 0)) := (FM.rf act σ).srg _ (by omega)
  have hh1 := x_here (N := N + 8) he hp hact m1.1 m1.2.1
  have hin1 := hV_dT (N := N + 8) (σ := srg σ 60 7 (nI 0)) hd
  have m2 : MS T e act (p + 1) cnt opn (srg (srg σ 60 7 (nI 0)) 60 5 (nI (p + 1))) := m1.mv
  have f2 := f1.srg (nI (p + 1)) (j := 5) (by omega)
  have hh2 := x_here (N := N + 8) he (by omega) hact m2.1 m2.2.1
  have st1 : ∀ r, b_X7_figures_34 (N + 8) (N + 7) (nI (T p - 48)) (nI 1) (srg (srg σ 60 7 (nI 0)) 60 5 (nI (p + 1))) = r → (if rg σ 60 7 = 0 then (bd2 (f_X7_here (N + 8) σ) fun v9 σ9 => bd2 (f_X7_in (N + 8) v9 (48 : Int32) (57 : Int32) σ9) fun v16 σ16 => if v16 = 0 then (gd (nbz 1) (nm (srg σ16 60 7 1) fun σ27 => b_X7_figures_34 (N + 8) (N + 8) (0 : Int32) (0 : Int32) σ27)) else (gd (nbz 0) (nm (srg σ16 60 7 0) fun σ27 => b_X7_figures_34 (N + 8) (N + 8) (0 : Int32) (0 : Int32) σ27))) else (gd (nbz 1) (nm (srg σ 60 7 1) fun σ27 => b_X7_figures_34 (N + 8) (N + 8) (0 : Int32) (0 : Int32) σ27))) = r := by
    intro r hr
    refine if_T (by rw [h.2.2.1]; decide) (bd2_k hh (bd2_k hin.1 (if_F n10 (gd_k (by decide) (nm_k ?_)))))
    show b_X7_figures_34b (N + 8) (b_X7_figures_34 (N + 8) (N + 7)) 0 0 (srg σ 60 7 (nI 0)) = _
    unfold b_X7_figures_34b b_X7_figures_68
    refine if_F (by decide) (if_T (by rw [m1.2.2.1]; decide) (bd2_k hh1 (bd2_k hin1.1 (if_F n10 (if_T rfl (bd2_k hh1 (nm_k (nm_k (nm_k ?_)))))))))
    rw [hin1.2, m1.2.1, l_10, l_0, l_48, l_1, pk_mul, nI_add, nI_add, nI_add, pk_sub (by omega)]
    rw [show 10 * 0 + T p - 48 = T p - 48 by omega]
    exact hr
  by_cases g : 48 < T p ∧ dgt T e (p + 1) = true
  · have ea : aNum T e p = (true, p + 2, (T p - 48) * 10 + (T (p + 1) - 48)) := (if_pos hd).trans (if_pos g)
    obtain ⟨g1, g2, g3⟩ := dgt_lt g.2
    have hin2 := hV_dT (N := N + 8) (σ := srg (srg σ 60 7 (nI 0)) 60 5 (nI (p + 1))) g.2
    rw [ea]
    have m3 : MS T e act (p + 2) cnt opn (srg (srg (srg σ 60 7 (nI 0)) 60 5 (nI (p + 1))) 60 5 (nI (p + 2))) := m2.mv
    refine ⟨nI ((T p - 48) * 10 + (T (p + 1) - 48)), srg (srg (srg σ 60 7 (nI 0)) 60 5 (nI (p + 1))) 60 5 (nI (p + 2)), st1 _ ?_, f2.srg _ (by omega), Or.inl ⟨rfl, rfl, m3, rfl⟩⟩
    show b_X7_figures_34b (N + 8) (b_X7_figures_34 (N + 8) (N + 6)) (nI (T p - 48)) (nI 1) _ = _
    unfold b_X7_figures_34b b_X7_figures_68
    refine if_F (by decide) (if_T (by rw [m2.2.2.1]; decide) (bd2_k hh2 (bd2_k hin2.1 (if_F n10 (if_F (by decide) (if_F (of_eq_false (ile_F (by omega : 0 < T p - 48) (by omega))) (bd2_k hh2 (nm_k (nm_k (nm_k ?_))))))))))
    rw [hin2.2, m2.2.1, l_10, l_48, l_1, pk_mul, nI_add, nI_add, nI_add, pk_sub (by omega)]
    rw [show 10 * (T p - 48) + T (p + 1) - 48 = (T p - 48) * 10 + (T (p + 1) - 48) by omega]
    show b_X7_figures_34b (N + 8) (b_X7_figures_34 (N + 8) (N + 5)) _ (nI (1 + 1)) _ = _
    unfold b_X7_figures_34b
    exact if_T (by decide) rfl
  · have ea : aNum T e p = (true, p + 1, T p - 48) := (if_pos hd).trans (if_neg g)
    rw [ea]
    refine ⟨nI (T p - 48), srg (srg σ 60 7 (nI 0)) 60 5 (nI (p + 1)), st1 _ ?_, f2, Or.inl ⟨rfl, rfl, m2, rfl⟩⟩
    show b_X7_figures_34b (N + 8) (b_X7_figures_34 (N + 8) (N + 6)) (nI (T p - 48)) (nI 1) _ = _
    unfold b_X7_figures_34b
    refine if_F (by decide) (if_T (by rw [m2.2.2.1]; decide) (bd2_k hh2 ?_))
    by_cases g1 : dgt T e (p + 1) = true
    · have hin2 := hV_dT (N := N + 8) (σ := srg (srg σ 60 7 (nI 0)) 60 5 (nI (p + 1))) g1
      have g2 : ¬ 48 < T p := fun q => g ⟨q, g1⟩
      exact bd2_k hin2.1 (if_F n10 (if_F (by decide) (if_T (of_eq_true (ile_T (by omega : T p - 48 ≤ 0) (by decide))) rfl)))
    · exact bd2_k (hV_dF hT g1) (if_T n00 rfl)
theorem Mo.mono {T : Nat → Nat} {e act cnt opn : Nat} {σ0 σ : Sg} {o : Option Sg} {b : Bool} {q : Nat} {l : List Int32} (g : FM act σ0 σ) (ga : ar σ 61 = ar σ0 61) (h : Mo T e act cnt opn σ o b q l) : Mo T e act cnt opn σ0 o b q l := by
  obtain ⟨σ', e1, f1, h1⟩ := h
  refine ⟨σ', e1, g.tr f1, ?_⟩
  rcases h1 with ⟨a, b, c⟩ | h1
  · exact Or.inl ⟨a, b, c.eq0 ga⟩
  · exact Or.inr h1
theorem Mo.eq {T : Nat → Nat} {e act cnt opn : Nat} {σ : Sg} {o o' : Option Sg} {b : Bool} {q : Nat} {l : List Int32} (h : o = o') (g : Mo T e act cnt opn σ o' b q l) : Mo T e act cnt opn σ o b q l := by
  rw [h]
  exact g
theorem Mo.wr {T : Nat → Nat} {e act cnt opn : Nat} {σ : Sg} {o : Option Sg} {q : Nat} {l : List Int32} (h : ∃ σ', o = some σ' ∧ FM act σ σ' ∧ WR T e act q σ') : Mo T e act cnt opn σ o false q l := by
  obtain ⟨σ', e1, f1, w1⟩ := h
  exact ⟨σ', e1, f1, Or.inr ⟨rfl, w1⟩⟩
theorem x_169W {N e p act : Nat} {T : Nat → Nat} {σ : Sg} {kr : Sg → Option Sg} {x y : Int32} (hb : MB T e act σ) (h5 : rg σ 60 5 = nI p) : ∃ σ', b_X7_factor_169 (N + 8) kr x y 1 σ = some σ' ∧ FM act σ σ' ∧ WR T e act p σ' := by
  have w0 := hb.w7 h5
  obtain ⟨v, σ1, e1, f1, w1⟩ := x_figW (N := N) w0
  obtain ⟨σ2, e2, f2, w2⟩ := x_emitW (N := N + 8) (T := T) (e := e) (act := act) (x + 8 * y + 32 * v) p σ1 w1
  refine ⟨σ2, ?_, (((FM.rf act σ).srg _ (by omega)).tr f1).tr f2, w2⟩
  unfold b_X7_factor_169
  exact gd_k (by decide) (nm_k (bd2_k e1 (bd_k e2 rfl)))
theorem x_fTest {N e p cnt opn act : Nat} {T : Nat → Nat} {σ : Sg} (he : e ≤ 100) (hp : p ≤ e) (hT : ∀ i, i < e → T i < 128) (hact : act ≤ 4) (hcp : cnt ≤ p) (kr : Sg → Option Sg) (h : MS T e act p cnt opn σ) : Mo T e act cnt opn σ (bd2 (f_X7_among (N + 8) σ) fun v115 σ115 => if v115 = (-1 : Int32) then (b_X7_factor_130 (N + 8) kr v115 (1 : Int32) σ115) else (b_X7_factor_130 (N + 8) kr v115 (0 : Int32) σ115)) (aTest T e p).1 (aTest T e p).2.1 ((aTest T e p).2.2.map cm1) := by
  have k1 := x_among (N := N) he hp hT hact h.1 h.2.1
  unfold aTest
  cases h1 : aOne T e p [115, 107, 117, 100, 108] 0 with
  | none =>
    rw [h1] at k1
    have w0 := h.1.w7 h.2.1
    obtain ⟨σ2, e2, f2, w2⟩ := x_169W (N := N) (kr := kr) (x := -1) (y := 0) w0.1 w0.2.1
    refine Mo.wr ⟨σ2, bd2_k k1 (if_T rfl ?_), ((FM.rf act σ).srg _ (by omega)).tr f2, w2⟩
    unfold b_X7_factor_130 b_X7_factor_150 b_X7_factor_164
    refine gd_k (by decide) (nm_k (if_F (by rw [rg_s2 ⟨rfl, rfl⟩]; decide) (if_F (by rw [rg_s2 ⟨rfl, rfl⟩]; decide) e2)))
  | some f =>
    rw [h1] at k1
    obtain ⟨q1, -, q2⟩ := aOne_P _ _ _ h1
    have q2' : f < 5 := q2
    have m1 : MS T e act (p + 1) cnt opn (srg σ 60 5 (nI (p + 1))) := h.mv
    have m2 := m1.z7
    have f2 : FM act σ (srg (srg σ 60 5 (nI (p + 1))) 60 7 (nI 0)) := ((FM.rf act σ).srg _ (by omega)).srg _ (by omega)
    have k2 := x_among1 (N := N) he (by omega : p + 1 ≤ e) hT hact m2.1 m2.2.1
    have hne : ¬ nI f = -1 := i_nn (by omega) (by decide)
    dsimp only
    cases h2 : aOne T e (p + 1) [60, 61, 62] 0 with
    | none =>
      rw [h2] at k2
      obtain ⟨σ3, e3, f3, w3⟩ := x_169W (N := N) (kr := kr) (x := nI f) (y := -1) m2.1 m2.2.1
      refine Mo.wr ⟨σ3, bd2_k k1 (if_F hne ?_), f2.tr f3, w3⟩
      unfold b_X7_factor_130 b_X7_factor_150 b_X7_factor_164
      exact gd_k (by decide) (nm_k (if_T (rg_s2 ⟨rfl, rfl⟩) (bd2_k k2 (if_T (rg_s2 ⟨rfl, rfl⟩) (if_T rfl e3)))))
    | some r =>
      rw [h2] at k2
      obtain ⟨q3, -, q4⟩ := aOne_P _ _ _ h2
      have q4' : r < 3 := q4
      have m3 : MS T e act (p + 2) cnt opn (srg (srg (srg σ 60 5 (nI (p + 1))) 60 7 (nI 0)) 60 5 (nI (p + 1 + 1))) := m2.mv
      have m4 := m3.z7
      have f4 := (f2.srg (nI (p + 1 + 1)) (j := 5) (by omega)).srg (nI 0) (j := 7) (by omega)
      have hne2 : ¬ nI r = -1 := i_nn (by omega) (by decide)
      obtain ⟨v, σ5, e5, f5, h5⟩ := x_fig (N := N) he (by omega : p + 2 ≤ e) hT hact m4
      obtain ⟨n1, n2, n3⟩ := aNum_P (T := T) (e := e) (p := p + 2) (by omega)
      have pre : ∀ σ', f_X7_emits (N + 8) (nI f + 8 * nI r + 32 * v) σ5 = some σ' → (bd2 (f_X7_among (N + 8) σ) fun v115 σ115 => if v115 = (-1 : Int32) then (b_X7_factor_130 (N + 8) kr v115 (1 : Int32) σ115) else (b_X7_factor_130 (N + 8) kr v115 (0 : Int32) σ115)) = some σ' := by
        intro σ' e6
        refine bd2_k k1 (if_F hne ?_)
        unfold b_X7_factor_130 b_X7_factor_150 b_X7_factor_169
        exact gd_k (by decide) (nm_k (if_T (rg_s2 ⟨rfl, rfl⟩) (bd2_k k2 (if_T ((rg_s1 (by omega)).trans (rg_s2 ⟨rfl, rfl⟩)) (if_F hne2 (gd_k (by decide) (nm_k (bd2_k e5 (bd_k e6 rfl)))))))))
      dsimp only
      rcases h5 with ⟨b1, b2, b3, b4⟩ | ⟨b1, b2⟩
      · rw [if_pos b1]
        have hn := n3 b1
        obtain ⟨σ6, e6, f6, h6⟩ := x_emit (N := N + 8) hact (by omega) (nI f + 8 * nI r + 32 * v) b3 he
        refine ⟨σ6, pre σ6 e6, (f4.tr f5).tr f6, ?_⟩
        rcases h6 with ⟨-, c1, c2⟩ | ⟨c1, -⟩
        · refine Or.inl ⟨rfl, c1, ?_⟩
          have ev : nI f + 8 * nI r + 32 * v = cm1 (f * 300 + r * 100 + (aNum T e (p + 2)).2.2) := by
            rw [b2, l_8, l_32, pk_mul, pk_mul, nI_add, nI_add]
            unfold cm1
            rw [if_neg (by omega), if_neg (by omega), if_neg (by omega)]
            congr 1
            omega
          rw [ev] at c2
          exact c2.eq0 b4
        · cases c1
      · rw [if_neg (by rw [b1]; decide)]
        obtain ⟨σ6, e6, f6, w6⟩ := x_emitW (N := N + 8) (T := T) (e := e) (act := act) (nI f + 8 * nI r + 32 * v) _ σ5 b2
        exact Mo.wr ⟨σ6, pre σ6 e6, (f4.tr f5).tr f6, w6⟩
theorem aTest_no {T : Nat → Nat} {e p c : Nat} (h : cAt T e p c = true) (hc : c ≠ 115 ∧ c ≠ 107 ∧ c ≠ 117 ∧ c ≠ 100 ∧ c ≠ 108) : aTest T e p = (false, p, []) := by
  obtain ⟨h1, h2⟩ := cAt_lt h
  have q : ∀ d, d ≠ c → ¬ cAt T e p d = true := fun d hd w => hd ((cAt_lt w).2.symm.trans h2)
  have e1 : aOne T e p [115, 107, 117, 100, 108] 0 = none := (if_neg (q 115 (by omega))).trans ((if_neg (q 107 (by omega))).trans ((if_neg (q 117 (by omega))).trans ((if_neg (q 100 (by omega))).trans (if_neg (q 108 (by omega))))))
  unfold aTest
  rw [e1]
theorem x_everyW {N e act : Nat} {T : Nat → Nat} {kr : Sg → Option Sg} (hW : Wf T e act kr) : Wf T e act (f_X7_every (N + 8) kr) := by
  intro p σ h
  obtain ⟨σ1, e1, f1, w1⟩ := hW p σ h
  refine ⟨σ1, bd_k e1 ?_, f1, w1⟩
  show b_X7_every_4b (N + 8) kr (b_X7_every_4 (N + 8) kr (N + 7)) σ1 = _
  unfold b_X7_every_4b
  exact if_F (by rw [w1.2.2]; decide) rfl
theorem x_someW {N e act : Nat} {T : Nat → Nat} {kr : Sg → Option Sg} (hW : Wf T e act kr) : Wf T e act (f_X7_some (N + 8) kr) := by
  intro p σ h
  obtain ⟨σ1, e1, f1, w1⟩ := x_everyW (N := N) hW p σ h
  refine ⟨σ1, bd_k e1 ?_, f1, w1⟩
  show b_X7_some_4b (N + 8) kr (b_X7_some_4 (N + 8) kr (N + 7)) σ1 = _
  unfold b_X7_some_4b
  exact if_F (by rw [w1.2.2]; decide) rfl

theorem x_evL {N e act opn : Nat} {T : Nat → Nat} {kr : Sg → Option Sg} {f : Nat → Rs} (he : e ≤ 100) (hT : ∀ i, i < e → T i < 128) (hact : act ≤ 4) (hG : Gd T e f) (hM : Mf T e act (kr) f opn) : ∀ m fuel p o cnt σ0 σ, e ≤ p + m → MS T e act p (cnt + o.length) opn σ → EM act cnt (o.map cm1) σ0 σ → FM act σ0 σ → cnt + o.length ≤ p → p ≤ e → Mo T e act cnt opn σ0 (b_X7_every_4 (N + 8) kr (fuel + m + 2) σ) (aLoop T e 38 2001 f m p o).1 (aLoop T e 38 2001 f m p o).2.1 ((aLoop T e 38 2001 f m p o).2.2.map cm1)
  | 0, fuel, p, o, cnt, σ0, σ, hm, h, hE, hF, hc, hp => by
    have hh := x_here (N := N + 8) he hp hact h.1 h.2.1
    refine ⟨σ, ?_, hF, Or.inl ⟨rfl, by rw [List.length_map]; exact h, hE⟩⟩
    show b_X7_every_4b (N + 8) kr (b_X7_every_4 (N + 8) kr (fuel + 1)) σ = _
    unfold b_X7_every_4b
    refine if_T (by rw [h.2.2.1]; decide) (bd2_k hh (if_F (hV_F (c := 38) hT (by decide) (fun q => ?_)) rfl))
    have := (cAt_lt q).1
    omega
  | m + 1, fuel, p, o, cnt, σ0, σ, hm, h, hE, hF, hc, hp => by
    have hh := x_here (N := N + 8) he hp hact h.1 h.2.1
    have e0 : aLoop T e 38 2001 f (m + 1) p o = if cAt T e p 38 = true then (if (f (p + 1)).1 = true then aLoop T e 38 2001 f m (f (p + 1)).2.1 (o ++ (f (p + 1)).2.2 ++ [2001]) else (false, (f (p + 1)).2.1, [])) else (true, p, o) := rfl
    rw [e0]
    have go : ∀ q, b_X7_every_4b (N + 8) kr (b_X7_every_4 (N + 8) kr (fuel + m + 2)) σ = q → b_X7_every_4 (N + 8) kr (fuel + (m + 1) + 2) σ = q := fun q hq => hq
    by_cases h1 : cAt T e p 38 = true
    · rw [if_pos h1]
      have hlt := (cAt_lt h1).1
      have m1 : MS T e act (p + 1) (cnt + o.length) opn (srg σ 60 5 (nI (p + 1))) := h.mv
      have f1 : FM act σ0 (srg σ 60 5 (nI (p + 1))) := hF.srg _ (by omega)
      obtain ⟨σ2, e2, f2, h2⟩ := hM (p + 1) (cnt + o.length) (srg σ 60 5 (nI (p + 1))) m1 (by omega) (by omega)
      obtain ⟨g1, g2, g3⟩ := hG (p + 1) (by omega)
      rcases h2 with ⟨b1, b2, b3⟩ | ⟨b1, b2⟩
      · rw [if_pos b1]
        have g4 := g3 b1
        rw [List.length_map] at b2
        obtain ⟨σ3, e3, f3, h3⟩ := x_emit (N := N + 8) hact (by omega) (-2) b2 he
        rcases h3 with ⟨-, c1, c2⟩ | ⟨c1, -⟩
        · have hE2 : EM act cnt ((o ++ (f (p + 1)).2.2 ++ [2001]).map cm1) σ0 σ3 := by
            rw [List.map_append, List.map_append]
            refine EM.app (b := σ2) (EM.app (b := srg σ 60 5 (nI (p + 1))) (hE.eq rfl) ?_) ?_
            · rw [List.length_map]
              exact b3
            · rw [List.length_append, List.length_map, List.length_map, ← Nat.add_assoc]
              exact c2
          have hl : (o ++ (f (p + 1)).2.2 ++ [2001]).length = o.length + (f (p + 1)).2.2.length + 1 := by
            rw [List.length_append, List.length_append]
            rfl
          have r := x_evL (N := N) he hT hact hG hM m fuel (f (p + 1)).2.1 (o ++ (f (p + 1)).2.2 ++ [2001]) cnt σ0 σ3 (by omega) (by
            rw [hl, ← Nat.add_assoc, ← Nat.add_assoc]
            exact c1) hE2 ((f1.tr f2).tr f3) (by rw [hl]; omega) g2
          refine Mo.eq (go _ ?_) r
          unfold b_X7_every_4b
          refine if_T (by rw [h.2.2.1]; decide) (bd2_k hh (if_T (hV_T h1) (nm_k ?_)))
          rw [h.2.1, l_1, nI_add]
          exact bd_k e2 (bd_k e3 rfl)
        · cases c1
      · rw [if_neg (by rw [b1]; decide)]
        obtain ⟨σ3, e3, f3, w3⟩ := x_emitW (N := N + 8) (T := T) (e := e) (act := act) (-2) _ σ2 b2
        refine Mo.wr ⟨σ3, go _ ?_, (f1.tr f2).tr f3, w3⟩
        unfold b_X7_every_4b
        refine if_T (by rw [h.2.2.1]; decide) (bd2_k hh (if_T (hV_T h1) (nm_k ?_)))
        rw [h.2.1, l_1, nI_add]
        refine bd_k e2 (bd_k e3 ?_)
        show b_X7_every_4b (N + 8) kr (b_X7_every_4 (N + 8) kr (fuel + m + 1)) σ3 = _
        unfold b_X7_every_4b
        exact if_F (by rw [w3.2.2]; decide) rfl
    · rw [if_neg h1]
      refine ⟨σ, go _ ?_, hF, Or.inl ⟨rfl, by rw [List.length_map]; exact h, hE⟩⟩
      unfold b_X7_every_4b
      exact if_T (by rw [h.2.2.1]; decide) (bd2_k hh (if_F (hV_F (c := 38) hT (by decide) h1) rfl))
theorem x_every {N e act opn : Nat} {T : Nat → Nat} {kr : Sg → Option Sg} {f : Nat → Rs} (he : e ≤ 100) (hT : ∀ i, i < e → T i < 128) (hact : act ≤ 4) (hG : Gd T e f) (hM : Mf T e act (kr) f opn) : Mf T e act (f_X7_every (N + 200) kr) (aSeq T e 38 2001 f) opn := by
  intro p cnt σ h hc hp
  obtain ⟨g1, g2, g3⟩ := hG p hp
  obtain ⟨σ1, e1, f1, h1⟩ := hM p cnt σ h hc hp
  unfold aSeq
  rcases h1 with ⟨b1, b2, b3⟩ | ⟨b1, b2⟩
  · rw [if_pos b1]
    have g4 := g3 b1
    rw [List.length_map] at b2
    have r := x_evL (N := N + 192) (kr := kr) he hT hact hG hM 100 (N + 98) (f p).2.1 (f p).2.2 cnt σ σ1 (by omega) b2 b3 f1 (by omega) g2
    rw [show N + 98 + 100 + 2 = N + 200 by omega] at r
    refine Mo.eq ?_ r
    exact bd_k e1 rfl
  · rw [if_neg (by rw [b1]; decide)]
    refine Mo.wr ⟨σ1, bd_k e1 ?_, f1, b2⟩
    show b_X7_every_4b (N + 200) kr (b_X7_every_4 (N + 200) kr (N + 199)) σ1 = _
    unfold b_X7_every_4b
    exact if_F (by rw [b2.2.2]; decide) rfl

theorem x_soL {N e act opn : Nat} {T : Nat → Nat} {kr : Sg → Option Sg} {f : Nat → Rs} (he : e ≤ 100) (hT : ∀ i, i < e → T i < 128) (hact : act ≤ 4) (hG : Gd T e f) (hM : Mf T e act (f_X7_every (N + 8) kr) f opn) : ∀ m fuel p o cnt σ0 σ, e ≤ p + m → MS T e act p (cnt + o.length) opn σ → EM act cnt (o.map cm1) σ0 σ → FM act σ0 σ → cnt + o.length ≤ p → p ≤ e → Mo T e act cnt opn σ0 (b_X7_some_4 (N + 8) kr (fuel + m + 2) σ) (aLoop T e 124 2002 f m p o).1 (aLoop T e 124 2002 f m p o).2.1 ((aLoop T e 124 2002 f m p o).2.2.map cm1)
  | 0, fuel, p, o, cnt, σ0, σ, hm, h, hE, hF, hc, hp => by
    have hh := x_here (N := N + 8) he hp hact h.1 h.2.1
    refine ⟨σ, ?_, hF, Or.inl ⟨rfl, by rw [List.length_map]; exact h, hE⟩⟩
    show b_X7_some_4b (N + 8) kr (b_X7_some_4 (N + 8) kr (fuel + 1)) σ = _
    unfold b_X7_some_4b
    refine if_T (by rw [h.2.2.1]; decide) (bd2_k hh (if_F (hV_F (c := 124) hT (by decide) (fun q => ?_)) rfl))
    have := (cAt_lt q).1
    omega
  | m + 1, fuel, p, o, cnt, σ0, σ, hm, h, hE, hF, hc, hp => by
    have hh := x_here (N := N + 8) he hp hact h.1 h.2.1
    have e0 : aLoop T e 124 2002 f (m + 1) p o = if cAt T e p 124 = true then (if (f (p + 1)).1 = true then aLoop T e 124 2002 f m (f (p + 1)).2.1 (o ++ (f (p + 1)).2.2 ++ [2002]) else (false, (f (p + 1)).2.1, [])) else (true, p, o) := rfl
    rw [e0]
    have go : ∀ q, b_X7_some_4b (N + 8) kr (b_X7_some_4 (N + 8) kr (fuel + m + 2)) σ = q → b_X7_some_4 (N + 8) kr (fuel + (m + 1) + 2) σ = q := fun q hq => hq
    by_cases h1 : cAt T e p 124 = true
    · rw [if_pos h1]
      have hlt := (cAt_lt h1).1
      have m1 : MS T e act (p + 1) (cnt + o.length) opn (srg σ 60 5 (nI (p + 1))) := h.mv
      have f1 : FM act σ0 (srg σ 60 5 (nI (p + 1))) := hF.srg _ (by omega)
      obtain ⟨σ2, e2, f2, h2⟩ := hM (p + 1) (cnt + o.length) (srg σ 60 5 (nI (p + 1))) m1 (by omega) (by omega)
      obtain ⟨g1, g2, g3⟩ := hG (p + 1) (by omega)
      rcases h2 with ⟨b1, b2, b3⟩ | ⟨b1, b2⟩
      · rw [if_pos b1]
        have g4 := g3 b1
        rw [List.length_map] at b2
        obtain ⟨σ3, e3, f3, h3⟩ := x_emit (N := N + 8) hact (by omega) (-3) b2 he
        rcases h3 with ⟨-, c1, c2⟩ | ⟨c1, -⟩
        · have hE2 : EM act cnt ((o ++ (f (p + 1)).2.2 ++ [2002]).map cm1) σ0 σ3 := by
            rw [List.map_append, List.map_append]
            refine EM.app (b := σ2) (EM.app (b := srg σ 60 5 (nI (p + 1))) (hE.eq rfl) ?_) ?_
            · rw [List.length_map]
              exact b3
            · rw [List.length_append, List.length_map, List.length_map, ← Nat.add_assoc]
              exact c2
          have hl : (o ++ (f (p + 1)).2.2 ++ [2002]).length = o.length + (f (p + 1)).2.2.length + 1 := by
            rw [List.length_append, List.length_append]
            rfl
          have r := x_soL (N := N) he hT hact hG hM m fuel (f (p + 1)).2.1 (o ++ (f (p + 1)).2.2 ++ [2002]) cnt σ0 σ3 (by omega) (by
            rw [hl, ← Nat.add_assoc, ← Nat.add_assoc]
            exact c1) hE2 ((f1.tr f2).tr f3) (by rw [hl]; omega) g2
          refine Mo.eq (go _ ?_) r
          unfold b_X7_some_4b
          refine if_T (by rw [h.2.2.1]; decide) (bd2_k hh (if_T (hV_T h1) (nm_k ?_)))
          rw [h.2.1, l_1, nI_add]
          exact bd_k e2 (bd_k e3 rfl)
        · cases c1
      · rw [if_neg (by rw [b1]; decide)]
        obtain ⟨σ3, e3, f3, w3⟩ := x_emitW (N := N + 8) (T := T) (e := e) (act := act) (-3) _ σ2 b2
        refine Mo.wr ⟨σ3, go _ ?_, (f1.tr f2).tr f3, w3⟩
        unfold b_X7_some_4b
        refine if_T (by rw [h.2.2.1]; decide) (bd2_k hh (if_T (hV_T h1) (nm_k ?_)))
        rw [h.2.1, l_1, nI_add]
        refine bd_k e2 (bd_k e3 ?_)
        show b_X7_some_4b (N + 8) kr (b_X7_some_4 (N + 8) kr (fuel + m + 1)) σ3 = _
        unfold b_X7_some_4b
        exact if_F (by rw [w3.2.2]; decide) rfl
    · rw [if_neg h1]
      refine ⟨σ, go _ ?_, hF, Or.inl ⟨rfl, by rw [List.length_map]; exact h, hE⟩⟩
      unfold b_X7_some_4b
      exact if_T (by rw [h.2.2.1]; decide) (bd2_k hh (if_F (hV_F (c := 124) hT (by decide) h1) rfl))
theorem x_some {N e act opn : Nat} {T : Nat → Nat} {kr : Sg → Option Sg} {f : Nat → Rs} (he : e ≤ 100) (hT : ∀ i, i < e → T i < 128) (hact : act ≤ 4) (hG : Gd T e f) (hM : Mf T e act (f_X7_every (N + 200) kr) f opn) : Mf T e act (f_X7_some (N + 200) kr) (aSeq T e 124 2002 f) opn := by
  intro p cnt σ h hc hp
  obtain ⟨g1, g2, g3⟩ := hG p hp
  obtain ⟨σ1, e1, f1, h1⟩ := hM p cnt σ h hc hp
  unfold aSeq
  rcases h1 with ⟨b1, b2, b3⟩ | ⟨b1, b2⟩
  · rw [if_pos b1]
    have g4 := g3 b1
    rw [List.length_map] at b2
    have r := x_soL (N := N + 192) (kr := kr) he hT hact hG hM 100 (N + 98) (f p).2.1 (f p).2.2 cnt σ σ1 (by omega) b2 b3 f1 (by omega) g2
    rw [show N + 98 + 100 + 2 = N + 200 by omega] at r
    refine Mo.eq ?_ r
    exact bd_k e1 rfl
  · rw [if_neg (by rw [b1]; decide)]
    refine Mo.wr ⟨σ1, bd_k e1 ?_, f1, b2⟩
    show b_X7_some_4b (N + 200) kr (b_X7_some_4 (N + 200) kr (N + 199)) σ1 = _
    unfold b_X7_some_4b
    exact if_F (by rw [b2.2.2]; decide) rfl

theorem x_factorW {N e act D : Nat} {T : Nat → Nat} : Wf T e act (f_X7_factor N (D + 1)) := by
  intro p σ h
  refine ⟨σ, ?_, FM.rf act σ, h⟩
  show f_X7_factor_b N (f_X7_factor N D) σ = _
  unfold f_X7_factor_b
  exact if_F (by rw [h.2.2]; decide) rfl
theorem x_factor {N e act : Nat} {T : Nat → Nat} (he : e ≤ 100) (hT : ∀ i, i < e → T i < 128) (hact : act ≤ 4) : ∀ D k, k < D → k ≤ 5 → Mf T e act (f_X7_factor (N + 200) (D + 1)) (aPart T e (EI T e) k) (5 - k)
  | 0, k, h, _ => absurd h (Nat.not_lt_zero k)
  | D + 1, k, hk, hk5 => by
    intro p cnt σ h hc hp
    have hh := x_here (N := N + 200) he hp hact h.1 h.2.1
    have go : ∀ q, f_X7_factor_b (N + 200) (f_X7_factor (N + 200) (D + 1)) σ = q → f_X7_factor (N + 200) (D + 1 + 1) σ = q := fun q hq => hq
    have tst : ¬ cAt T e p 33 = true → ¬ cAt T e p 40 = true → Mo T e act cnt (5 - k) σ (f_X7_factor (N + 200) (D + 1 + 1) σ) (aTest T e p).1 (aTest T e p).2.1 ((aTest T e p).2.2.map cm1) := by
      intro h1 h2
      have r := x_fTest (N := N + 192) he hp hT hact hc (f_X7_factor (N + 200) (D + 1)) h
      refine Mo.eq (go _ ?_) r
      unfold f_X7_factor_b
      exact if_T (by rw [h.2.2.1]; decide) (bd2_k hh (if_F (hV_F (c := 33) hT (by decide) h1) (if_F (hV_F (c := 40) hT (by decide) h2) rfl)))
    have hWk : Wf T e act (f_X7_factor (N + 200) (D + 1)) := x_factorW
    match k, hk, hk5, h, tst with
    | 0, _, _, h, tst =>
      by_cases h1 : cAt T e p 33 = true
      · rw [show aPart T e (EI T e) 0 p = (false, p, []) from aTest_no h1 (by decide)]
        have w0 : WR T e act p (srg (srg (srg σ 60 7 (nI 1)) 60 8 (nI 6)) 60 5 (nI p)) := ((h.1.w7 h.2.1).op _).p5
        have f0 : FM act σ (srg (srg (srg σ 60 7 (nI 1)) 60 8 (nI 6)) 60 5 (nI p)) := (((FM.rf act σ).srg _ (by omega)).srg _ (by omega)).srg _ (by omega)
        obtain ⟨σ1, e1, f1, w1⟩ := hWk p _ w0
        obtain ⟨σ2, e2, f2, w2⟩ := x_emitW (N := N + 200) (T := T) (e := e) (act := act) (-1) p σ1 w1
        refine Mo.wr ⟨srg σ2 60 8 (rg σ2 60 8 - 1), go _ ?_, ((f0.tr f1).tr f2).srg _ (by omega), w2.op _⟩
        unfold f_X7_factor_b b_X7_factor_25 b_X7_factor_39 b_X7_factor_69 b_X7_factor_101
        refine if_T (by rw [h.2.2.1]; decide) (bd2_k hh (if_T (hV_T h1) (if_T (by rw [h.2.2.2.1]; decide) (gd_k (by decide) (nm_k (nm_k ?_))))))
        rw [show rg (srg σ 60 7 1) 60 8 = nI 5 from (rg_s1 (by omega)).trans h.2.2.2.1, l_1, nI_add]
        refine if_F (by rw [rg_s1 (by omega), rg_s2 ⟨rfl, rfl⟩]; decide) ?_
        rw [show rg (srg (srg σ 60 7 (nI 1)) 60 8 (nI (5 + 1))) 60 5 = nI p from (rg_s1 (by omega)).trans ((rg_s1 (by omega)).trans h.2.1), l_0, nI_add, hV_T h1]
        exact nm_k (if_T rfl (bd_k e1 (bd_k e2 (nm_k rfl))))
      by_cases h2 : cAt T e p 40 = true
      · rw [show aPart T e (EI T e) 0 p = (false, p, []) from aTest_no h2 (by decide)]
        have w0 : WR T e act p (srg (srg (srg σ 60 7 (nI 1)) 60 8 (nI 6)) 60 5 (nI p)) := ((h.1.w7 h.2.1).op _).p5
        have f0 : FM act σ (srg (srg (srg σ 60 7 (nI 1)) 60 8 (nI 6)) 60 5 (nI p)) := (((FM.rf act σ).srg _ (by omega)).srg _ (by omega)).srg _ (by omega)
        obtain ⟨σ1, e1, f1, w1⟩ := x_someW (N := N + 192) hWk p _ w0
        obtain ⟨σ2, e2, f2, w2⟩ := x_mustW (N := N + 200) (c := 41) (T := T) (e := e) (act := act) p σ1 w1
        refine Mo.wr ⟨srg σ2 60 8 (rg σ2 60 8 - 1), go _ ?_, ((f0.tr f1).tr f2).srg _ (by omega), w2.op _⟩
        unfold f_X7_factor_b b_X7_factor_25 b_X7_factor_39 b_X7_factor_69 b_X7_factor_101
        refine if_T (by rw [h.2.2.1]; decide) (bd2_k hh (if_F (hV_F (c := 33) hT (by decide) h1) (if_T (hV_T h2) (if_T (by rw [h.2.2.2.1]; decide) (gd_k (by decide) (nm_k (nm_k ?_)))))))
        rw [show rg (srg σ 60 7 1) 60 8 = nI 5 from (rg_s1 (by omega)).trans h.2.2.2.1, l_1, nI_add]
        refine if_F (by rw [rg_s1 (by omega), rg_s2 ⟨rfl, rfl⟩]; decide) ?_
        rw [show rg (srg (srg σ 60 7 (nI 1)) 60 8 (nI (5 + 1))) 60 5 = nI p from (rg_s1 (by omega)).trans ((rg_s1 (by omega)).trans h.2.1), l_0, nI_add, hV_T h2]
        exact nm_k (if_F (by decide) (bd_k e1 (bd_k e2 (nm_k rfl))))
      · exact tst h1 h2
    | k + 1, hk, hk5, h, tst =>
      have e0 : aPart T e (EI T e) (k + 1) p = if cAt T e p 33 = true then ((aPart T e (EI T e) k (p + 1)).1, (aPart T e (EI T e) k (p + 1)).2.1, (aPart T e (EI T e) k (p + 1)).2.2 ++ [2000]) else if cAt T e p 40 = true then aPar T e (EI T e k (p + 1)) else aTest T e p := rfl
      rw [e0]
      have hno5 : ¬ rg σ 60 8 = 5 := by
        rw [h.2.2.2.1]
        exact of_eq_false (ieq_F (by omega : ¬ 5 - (k + 1) = 5) (by omega) (by decide))
      have m1 : ∀ v : Nat, v = p + 1 → MS T e act (p + 1) cnt (5 - k) (srg (srg (srg σ 60 7 (nI 0)) 60 8 (nI (5 - (k + 1) + 1))) 60 5 (nI v)) := fun v hv => by
        have := h.z7.op (o2 := 5 - (k + 1) + 1)
        rw [show 5 - (k + 1) + 1 = 5 - k by omega] at this ⊢
        rw [hv]
        exact this.mv
      have m1 := m1 (p + 1) rfl
      have f1 : FM act σ (srg (srg (srg σ 60 7 (nI 0)) 60 8 (nI (5 - (k + 1) + 1))) 60 5 (nI (p + 1))) := (((FM.rf act σ).srg _ (by omega)).srg _ (by omega)).srg _ (by omega)
      have hkr := x_factor (N := N) he hT hact D k (by omega) (by omega)
      have st : ∀ (c : Nat) (x : Int32), x = nI c → ∀ r, (if x = (33 : Int32) then (bd (f_X7_factor (N + 200) (D + 1) (srg (srg (srg σ 60 7 (nI 0)) 60 8 (nI (5 - (k + 1) + 1))) 60 5 (nI (p + 1)))) fun σ80 => bd (f_X7_emits (N + 200) (-1 : Int32) σ80) fun σ85 => b_X7_factor_101 (N + 200) (f_X7_factor (N + 200) (D + 1)) σ85) else (bd (f_X7_some (N + 200) (f_X7_factor (N + 200) (D + 1)) (srg (srg (srg σ 60 7 (nI 0)) 60 8 (nI (5 - (k + 1) + 1))) 60 5 (nI (p + 1)))) fun σ92 => bd (f_X7_must (N + 200) (41 : Int32) σ92) fun σ98 => b_X7_factor_101 (N + 200) (f_X7_factor (N + 200) (D + 1)) σ98)) = r → b_X7_factor_25 (N + 200) (f_X7_factor (N + 200) (D + 1)) x σ = r := by
        intro c x hx r hr
        unfold b_X7_factor_25 b_X7_factor_39 b_X7_factor_69
        refine if_F hno5 (gd_k (by decide) (nm_k (nm_k ?_)))
        rw [show rg (srg σ 60 7 0) 60 8 = nI (5 - (k + 1)) from (rg_s1 (by omega)).trans h.2.2.2.1, l_0, l_1, nI_add]
        refine if_T ((rg_s1 (by omega)).trans (rg_s2 ⟨rfl, rfl⟩)) ?_
        rw [show rg (srg (srg σ 60 7 (nI 0)) 60 8 (nI (5 - (k + 1) + 1))) 60 5 = nI p from (rg_s1 (by omega)).trans ((rg_s1 (by omega)).trans h.2.1), nI_add]
        exact nm_k hr
      by_cases h1 : cAt T e p 33 = true
      · rw [if_pos h1]
        have hlt := (cAt_lt h1).1
        obtain ⟨σ2, e2, f2, h2⟩ := hkr (p + 1) cnt _ m1 (by omega) (by omega)
        obtain ⟨g1, g2, g3⟩ := aPart_G (T := T) (e := e) (kr := EI T e) (fun k => EI_G k) k (p + 1) (by omega)
        have fin : ∀ σ3, f_X7_emits (N + 200) (-1) σ2 = some σ3 → f_X7_factor (N + 200) (D + 1 + 1) σ = some (srg σ3 60 8 (rg σ3 60 8 - 1)) := by
          intro σ3 e3
          refine go _ ?_
          unfold f_X7_factor_b
          refine if_T (by rw [h.2.2.1]; decide) (bd2_k hh (if_T (hV_T h1) (st 33 _ (hV_T h1) _ (if_T (hV_T h1) (bd_k e2 (bd_k e3 ?_))))))
          unfold b_X7_factor_101
          exact nm_k rfl
        rcases h2 with ⟨b1, b2, b3⟩ | ⟨b1, b2⟩
        · have g4 := g3 b1
          rw [List.length_map] at b2
          obtain ⟨σ3, e3, f3, h3⟩ := x_emit (N := N + 200) hact (by omega) (-1) b2 he
          rcases h3 with ⟨-, c1, c2⟩ | ⟨c1, -⟩
          · refine ⟨_, fin σ3 e3, ((f1.tr f2).tr f3).srg _ (by omega), Or.inl ⟨b1, ?_, ?_⟩⟩
            · rw [c1.2.2.2.1, l_1, pk_sub (by omega), show 5 - k - 1 = 5 - (k + 1) by omega, List.map_append, List.length_append, List.length_map]
              exact c1.op
            · rw [List.map_append]
              refine (EM.app (b := σ2) (b3.eq0 rfl) ?_).eq rfl
              rw [List.length_map]
              exact c2
          · cases c1
        · obtain ⟨σ3, e3, f3, w3⟩ := x_emitW (N := N + 200) (T := T) (e := e) (act := act) (-1) _ σ2 b2
          exact ⟨_, fin σ3 e3, ((f1.tr f2).tr f3).srg _ (by omega), Or.inr ⟨b1, w3.op _⟩⟩
      rw [if_neg h1]
      by_cases h2 : cAt T e p 40 = true
      · rw [if_pos h2]
        have hlt := (cAt_lt h2).1
        have hG1 := aPart_G (T := T) (e := e) (kr := EI T e) (fun k => EI_G k) k
        have hev := x_every (N := N) (kr := f_X7_factor (N + 200) (D + 1)) he hT hact hG1 hkr
        have hso := x_some (N := N) (kr := f_X7_factor (N + 200) (D + 1)) he hT hact (aSeq_G hG1) hev
        have hso' : Mf T e act (f_X7_some (N + 200) (f_X7_factor (N + 200) (D + 1))) (EI T e k) (5 - k) := by
          rw [EI_eq]
          exact hso
        obtain ⟨σ2, e2, f2, h3⟩ := hso' (p + 1) cnt _ m1 (by omega) (by omega)
        obtain ⟨g1, g2, g3⟩ := EI_G (T := T) (e := e) k (p + 1) (by omega)
        have fin : ∀ σ3, f_X7_must (N + 200) 41 σ2 = some σ3 → f_X7_factor (N + 200) (D + 1 + 1) σ = some (srg σ3 60 8 (rg σ3 60 8 - 1)) := by
          intro σ3 e3
          refine go _ ?_
          unfold f_X7_factor_b
          refine if_T (by rw [h.2.2.1]; decide) (bd2_k hh (if_F (hV_F (c := 33) hT (by decide) h1) (if_T (hV_T h2) (st 40 _ (hV_T h2) _ (if_F (by rw [hV_T h2]; decide) (bd_k e2 (bd_k e3 ?_)))))))
          unfold b_X7_factor_101
          exact nm_k rfl
        unfold aPar
        rcases h3 with ⟨b1, b2, b3⟩ | ⟨b1, b2⟩
        · rw [if_pos b1]
          obtain ⟨σ3, e3, f3, h4⟩ := x_must (N := N + 200) (c := 41) he g2 hT hact (by decide) b2
          rcases h4 with ⟨c1, c2, c3⟩ | ⟨c1, c2⟩
          · rw [if_pos c1] at c2 ⊢
            refine ⟨_, fin σ3 e3, ((f1.tr f2).tr f3).srg _ (by omega), Or.inl ⟨rfl, ?_, ?_⟩⟩
            · rw [c2.2.2.2.1, l_1, pk_sub (by omega), show 5 - k - 1 = 5 - (k + 1) by omega]
              exact c2.op
            · have := EM.app (b := σ2) (b3.eq0 rfl) c3
              rw [List.append_nil] at this
              exact this.eq rfl
          · rw [if_neg (by rw [c1]; decide)] at c2 ⊢
            exact ⟨_, fin σ3 e3, ((f1.tr f2).tr f3).srg _ (by omega), Or.inr ⟨rfl, c2.op _⟩⟩
        · rw [if_neg (by rw [b1]; decide)]
          obtain ⟨σ3, e3, f3, w3⟩ := x_mustW (N := N + 200) (c := 41) (T := T) (e := e) (act := act) _ σ2 b2
          exact ⟨_, fin σ3 e3, ((f1.tr f2).tr f3).srg _ (by omega), Or.inr ⟨rfl, w3.op _⟩⟩
      · rw [if_neg h2]
        exact tst h1 h2
theorem x_EI7 {N e act k : Nat} {T : Nat → Nat} (he : e ≤ 100) (hT : ∀ i, i < e → T i < 128) (hact : act ≤ 4) (hk : k ≤ 5) : Mf T e act (f_X7_some (N + 200) (f_X7_factor (N + 200) 20)) (EI T e k) (5 - k) := by
  have hkr := x_factor (N := N) he hT hact 19 k (by omega) hk
  have hG1 := aPart_G (T := T) (e := e) (kr := EI T e) (fun k => EI_G k) k
  have hev := x_every (N := N) (kr := f_X7_factor (N + 200) 20) he hT hact hG1 hkr
  have hso := x_some (N := N) (kr := f_X7_factor (N + 200) 20) he hT hact (aSeq_G hG1) hev
  rw [EI_eq]
  exact hso
