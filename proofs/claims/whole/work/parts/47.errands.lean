/-! errands: the model's search -/
def OD (σ σ' : Sg) : Prop := (∀ k j, ¬ (k = 60 ∧ j = 30) → rg σ' k j = rg σ k j) ∧ al σ' = al σ ∧ ∀ k, k ≠ 78 → k ≠ 79 → ar σ' k = ar σ k
theorem OD.rf (σ : Sg) : OD σ σ := ⟨fun _ _ _ => rfl, rfl, fun _ _ _ => rfl⟩
theorem OD.tr {a b c : Sg} (h : OD a b) (g : OD b c) : OD a c := ⟨fun k j q => (g.1 k j q).trans (h.1 k j q), g.2.1.trans h.2.1, fun k h1 h2 => (g.2.2 k h1 h2).trans (h.2.2 k h1 h2)⟩
theorem OD.sm {a b : Sg} (h : OD a b) : Sm a b := ⟨fun k j q => h.1 k j (fun ⟨h1, h2⟩ => by
  unfold cR at q
  have := of_decide_eq_true q
  omega), fun k hk => h.2.2 k (fun q => by subst q; cases hk) (fun q => by subst q; cases hk)⟩
/-- behind a search that may find v at cost, the order l behind the first k -/
def Res (σ0 σ : Sg) (best cost k v : Nat) (l : List Nat) : Prop := (v < 1000000 ∧ cost + v < best ∧ rg σ 60 30 = nI (cost + v) ∧ ∀ i, i < 7 → ar σ 79 i = if i < k then ar σ0 78 i else oe l (i - k)) ∨ (¬ (v < 1000000 ∧ cost + v < best) ∧ rg σ 60 30 = nI best ∧ ∀ i, i < 7 → ar σ 79 i = ar σ0 79 i)
theorem x_o48 {N : Nat} (kr : Int32 → Int32 → Int32 → Int32 → Int32 → Sg → Option Sg) {k : Nat} (hk : k ≤ 7) : ∀ m n j σ, j + m = 7 → ∃ σ', b_X7_ordersFrom_48 N kr (n + m + 1) (nI k) (nI j) σ = some σ' ∧ OR 79 σ σ' ∧ (∀ q, j ≤ q → q < 7 → ar σ' 79 q = if q < k then ar σ 78 q else -5) ∧ ∀ q, q < j → ar σ' 79 q = ar σ 79 q
  | 0, n, j, σ, hj => by
    have e : j = 7 := by omega
    subst e
    refine ⟨σ, ?_, OR.rf 79 σ, fun q h1 h2 => by omega, fun q h => rfl⟩
    show b_X7_ordersFrom_48b N kr (b_X7_ordersFrom_48 N kr n) _ _ _ = _
    unfold b_X7_ordersFrom_48b
    exact if_T (of_eq_true (ile_T (Nat.le_refl 7) (by decide))) rfl
  | m + 1, n, j, σ, hj => by
    have hj7 : j < 7 := by omega
    obtain ⟨σ', e, o, g, g2⟩ := x_o48 (N := N) kr hk m n (j + 1) (sar σ 79 j (if j < k then ar σ 78 j else -5)) (by omega)
    refine ⟨σ', ?_, ((OR.rf 79 σ).sar j _).tr o, fun q h1 h2 => ?_, fun q h => ?_⟩
    · show b_X7_ordersFrom_48b N kr (b_X7_ordersFrom_48 N kr (n + m + 1)) _ _ _ = _
      unfold b_X7_ordersFrom_48b b_X7_ordersFrom_80
      rw [nI_clamp (by omega), l_1, nI_add]
      refine if_F (of_eq_false (ile_F hj7 (by decide))) ?_
      by_cases q : j < k
      · rw [if_pos q] at e
        exact if_F (of_eq_false (ile_F q (by omega))) (gd_k (inb_nI hj7 (by decide)) (gd_k (inb_nI hj7 (by decide)) (nm_k (nm_k e))))
      · rw [if_neg q] at e
        exact if_T (of_eq_true (ile_T (by omega) (by omega))) (gd_k (inb_nI hj7 (by decide)) (nm_k (nm_k e)))
    · by_cases hq : q = j
      · subst hq
        rw [g2 q (by omega), ar_s2 ⟨rfl, rfl⟩]
      · rw [g q (by omega) h2, ar_sar_ne (by decide)]
    · rw [g2 q (by omega), ar_s1 (by omega)]
def Dfs (A : Ab) (home : Nat) (kr : Int32 → Int32 → Int32 → Int32 → Int32 → Sg → Option Sg) (f : Nat) : Prop := ∀ part a k cost best σ, part < 128 → popc part = f → a < aS A → k + f ≤ 7 → cost ≤ 5946 * k → best ≤ 1000000000 → ar σ 61 0 = nI (aS A) → MW A σ → rg σ 60 30 = nI best → ∃ σ', kr (nI home) (nI a) (nI part) (nI k) (nI cost) σ = some σ' ∧ OD σ σ' ∧ (∀ i, i < k → ar σ' 78 i = ar σ 78 i) ∧ Res σ σ' best cost k (RV A home part a) (OLi A home part a)
theorem x_o91 {N : Nat} {A : Ab} (hA : AOK A) {home f part a k cost best : Nat} (hh : home < aS A) {kr : Int32 → Int32 → Int32 → Int32 → Int32 → Sg → Option Sg} (hkr : Dfs A home kr f) (hp : part < 128) (hf : popc part = f + 1) (ha : a < aS A) (hk : k + (f + 1) ≤ 7) (hcost : cost ≤ 5946 * k) (hbest : best ≤ 1000000000) {σ0 : Sg} (h61 : ar σ0 61 0 = nI (aS A)) (hW : MW A σ0) : ∀ m n J σ, J + m = aS A → OD σ0 σ → (∀ i, i < k → ar σ 78 i = ar σ0 78 i) → Res σ0 σ best cost k (AM A home part a J).1 ((AM A home part a J).2 :: OLi A home (part ^^^ 2 ^ (AM A home part a J).2) (AM A home part a J).2) → ∃ σ', b_X7_ordersFrom_91 N kr (n + m + 1) (nI home) (nI a) (nI part) (nI k) (nI cost) (nI J) σ = some σ' ∧ OD σ0 σ' ∧ (∀ i, i < k → ar σ' 78 i = ar σ0 78 i) ∧ Res σ0 σ' best cost k (AM A home part a (aS A)).1 ((AM A home part a (aS A)).2 :: OLi A home (part ^^^ 2 ^ (AM A home part a (aS A)).2) (AM A home part a (aS A)).2)
  | 0, n, J, σ, hj, hO, hpre, hres => by
    have hS7 := hA.1.1
    have e : J = aS A := by omega
    subst e
    have m1 : ar σ 61 (0 : Int32).toNatClampNeg = nI (aS A) := (congrFun (hO.2.2 61 (by decide) (by decide)) 0).trans h61
    refine ⟨σ, ?_, hO, hpre, hres⟩
    show b_X7_ordersFrom_91b N kr (b_X7_ordersFrom_91 N kr n) _ _ _ _ _ _ _ = _
    unfold b_X7_ordersFrom_91b
    rw [m1]
    exact gd_k rfl (if_T (of_eq_true (ile_T (Nat.le_refl _) (by omega))) rfl)
  | m + 1, n, J, σ, hj, hO, hpre, hres => by
    have hS7 := hA.1.1
    have hJ : J < aS A := by omega
    have m1 : ar σ 61 (0 : Int32).toNatClampNeg = nI (aS A) := (congrFun (hO.2.2 61 (by decide) (by decide)) 0).trans h61
    have h77 : ar σ 77 (7 * a + J) = nI (wm A a J) := by rw [hO.2.2 77 (by decide) (by decide)]; exact hW a J ha hJ
    have hrel := wy_rel hA ha hJ
    have hamle : (AM A home part a J).1 ≤ 1000000 := amf_le _ _ _
    have e : AM A home part a (J + 1) = if part.testBit J = true ∧ vJ A home part a J < (AM A home part a J).1 then (vJ A home part a J, J) else AM A home part a J := rfl
    have ih := x_o91 (N := N) hA (cost := cost) (best := best) hh hkr hp hf ha hk hcost hbest h61 hW m n (J + 1)
    have same : AM A home part a (J + 1) = AM A home part a J → ∃ σ', b_X7_ordersFrom_91 N kr (n + m + 1) (nI home) (nI a) (nI part) (nI k) (nI cost) (nI (J + 1)) σ = some σ' ∧ OD σ0 σ' ∧ (∀ i, i < k → ar σ' 78 i = ar σ0 78 i) ∧ Res σ0 σ' best cost k (AM A home part a (aS A)).1 ((AM A home part a (aS A)).2 :: OLi A home (part ^^^ 2 ^ (AM A home part a (aS A)).2) (AM A home part a (aS A)).2) := fun q => ih σ (by omega) hO hpre (by rw [q]; exact hres)
    by_cases hb : part.testBit J = true
    case neg =>
      obtain ⟨σ', e1, r⟩ := same (by rw [e, if_neg (fun q => hb q.1)])
      refine ⟨σ', ?_, r⟩
      show b_X7_ordersFrom_91b N kr (b_X7_ordersFrom_91 N kr (n + m + 1)) _ _ _ _ _ _ _ = _
      unfold b_X7_ordersFrom_91b b_X7_ordersFrom_172
      rw [m1, l_31, l_1, bit_1 _ hp J (by omega), if_neg hb, nI_add]
      exact gd_k rfl (if_F (of_eq_false (ile_F hJ (by omega))) (if_F (by decide) (nm_k e1)))
    obtain ⟨b1, b2, b3⟩ := bit_9 part hp J (by omega) hb
    have b4 := (bit_8 part hp J (by omega)).2
    have hv : vJ A home part a J = wy A a J + RV A home (part ^^^ 2 ^ J) J := rfl
    by_cases hw : 1000000000 ≤ wm A a J
    · obtain ⟨σ', e1, r⟩ := same (by rw [e, if_neg (fun q => by have := q.2; omega)])
      refine ⟨σ', ?_, r⟩
      show b_X7_ordersFrom_91b N kr (b_X7_ordersFrom_91 N kr (n + m + 1)) _ _ _ _ _ _ _ = _
      unfold b_X7_ordersFrom_91b b_X7_ordersFrom_172
      rw [m1, l_31, l_1, bit_1 _ hp J (by omega), if_pos hb, nI_add, l_7, pk_mul, nI_add, nI_clamp (by omega), h77]
      exact gd_k rfl (if_F (of_eq_false (ile_F hJ (by omega))) (if_T rfl (gd_k (inb_nI (by omega) (by decide)) (if_T (of_eq_true (ile_T hw (by omega))) (nm_k e1)))))
    have hwy : wy A a J = wm A a J ∧ wy A a J ≤ 5946 := by omega
    have hbj : ∃ bj, rg σ 60 30 = nI bj ∧ bj ≤ best ∧ (((AM A home part a J).1 < 1000000 ∧ cost + (AM A home part a J).1 < best ∧ bj = cost + (AM A home part a J).1) ∨ (¬ ((AM A home part a J).1 < 1000000 ∧ cost + (AM A home part a J).1 < best) ∧ bj = best)) := by
      rcases hres with ⟨r1, r2, r3, r4⟩ | ⟨r1, r2, r3⟩
      · exact ⟨_, r3, by omega, Or.inl ⟨r1, r2, rfl⟩⟩
      · exact ⟨_, r2, Nat.le_refl _, Or.inr ⟨r1, rfl⟩⟩
    obtain ⟨bj, q1, q2, q3⟩ := hbj
    have hOs : OD σ (sar σ 78 k (nI J)) := ⟨fun _ _ _ => rfl, rfl, fun x h1 h2 => ar_sar_ne h1⟩
    obtain ⟨σ1, e1, o1, p1, r1⟩ := hkr (part ^^^ 2 ^ J) J (k + 1) (cost + wy A a J) bj (sar σ 78 k (nI J)) b4 (by omega) hJ (by omega) (by omega) (by omega) m1 (fun i j hi hj => by
      rw [ar_sar_ne (by decide), hO.2.2 77 (by decide) (by decide)]
      exact hW i j hi hj) q1
    have hRVle := RV_le hA (home := home) (a := J) b4
    have hRVf := RV_fin hA hh f (part ^^^ 2 ^ J) J (by omega) b4 hJ
    have hO1 : OD σ0 σ1 := (hO.tr hOs).tr o1
    have hpre1 : ∀ i, i < k → ar σ1 78 i = ar σ0 78 i := fun i hi => by
      rw [p1 i (by omega), ar_s1 (by omega)]
      exact hpre i hi
    have hres1 : Res σ0 σ1 best cost k (AM A home part a (J + 1)).1 ((AM A home part a (J + 1)).2 :: OLi A home (part ^^^ 2 ^ (AM A home part a (J + 1)).2) (AM A home part a (J + 1)).2) := by
      rcases r1 with ⟨r1, r2, r3, r4⟩ | ⟨r1, r2, r3⟩
      · have hvl : vJ A home part a J < (AM A home part a J).1 := by omega
        rw [e, if_pos ⟨hb, hvl⟩]
        left
        show vJ A home part a J < 1000000 ∧ cost + vJ A home part a J < best ∧ rg σ1 60 30 = nI (cost + vJ A home part a J) ∧ ∀ i, i < 7 → ar σ1 79 i = if i < k then ar σ0 78 i else oe (J :: OLi A home (part ^^^ 2 ^ J) J) (i - k)
        refine ⟨by omega, by omega, by rw [r3, hv, Nat.add_assoc], fun i hi => ?_⟩
        rw [r4 i hi]
        by_cases h1 : i < k
        · rw [if_pos (by omega), if_pos h1, ar_s1 (by omega)]
          exact hpre i h1
        · rw [if_neg h1]
          by_cases h2 : i = k
          · subst h2
            rw [if_pos (Nat.lt_succ_self _), ar_s2 ⟨rfl, rfl⟩, Nat.sub_self]
            unfold oe
            rw [if_pos (by rw [List.length_cons]; omega)]
            rfl
          · rw [if_neg (by omega)]
            unfold oe
            rw [List.length_cons, show i - k = (i - (k + 1)) + 1 by omega]
            by_cases h3 : i - (k + 1) < (OLi A home (part ^^^ 2 ^ J) J).length
            · rw [if_pos h3, if_pos (by omega)]
              rfl
            · rw [if_neg h3, if_neg (by omega)]
      · have r3' : ∀ i, i < 7 → ar σ1 79 i = ar σ 79 i := fun i hi => by
          rw [r3 i hi, ar_sar_ne (by decide)]
        rw [e]
        by_cases hvl : vJ A home part a J < (AM A home part a J).1
        · rw [if_pos ⟨hb, hvl⟩]
          right
          rcases hres with ⟨t1, t2, t3, t4⟩ | ⟨t1, t2, t3⟩
          · omega
          · refine ⟨?_, ?_, fun i hi => (r3' i hi).trans (t3 i hi)⟩
            · show ¬ (vJ A home part a J < 1000000 ∧ cost + vJ A home part a J < best)
              omega
            · rw [r2]
              congr 1
              omega
        · rw [if_neg (fun q => hvl q.2)]
          rcases hres with ⟨t1, t2, t3, t4⟩ | ⟨t1, t2, t3⟩
          · refine Or.inl ⟨t1, t2, ?_, fun i hi => (r3' i hi).trans (t4 i hi)⟩
            rw [r2]
            congr 1
            omega
          · refine Or.inr ⟨t1, ?_, fun i hi => (r3' i hi).trans (t3 i hi)⟩
            rw [r2]
            congr 1
            omega
    obtain ⟨σ', e2, r⟩ := ih σ1 (by omega) hO1 hpre1 hres1
    refine ⟨σ', ?_, r⟩
    show b_X7_ordersFrom_91b N kr (b_X7_ordersFrom_91 N kr (n + m + 1)) _ _ _ _ _ _ _ = _
    unfold b_X7_ordersFrom_91b b_X7_ordersFrom_172
    rw [m1, l_31, l_1, bit_1 _ hp J (by omega), if_pos hb, bit_3 _ hp J (by omega), b3, nI_add, nI_add, l_7, pk_mul, nI_add, nI_clamp (by omega), nI_clamp (by omega), h77]
    refine gd_k rfl (if_F (of_eq_false (ile_F hJ (by omega))) (if_T rfl (gd_k (inb_nI (by omega) (by decide)) (if_F (of_eq_false (ile_F (by omega : wm A a J < 1000000000) (by decide))) (gd_k (inb_nI (by omega) (by decide)) (nm_k (gd_k (inb_nI (by omega) (by decide)) ?_)))))))
    rw [ar_sar_ne (by decide), h77, nI_add, ← hwy.1]
    exact bd_k e1 (nm_k e2)
theorem x_dfs {N : Nat} {A : Ab} (hA : AOK A) {home : Nat} (hh : home < aS A) : ∀ f D, Dfs A home (f_X7_ordersFrom (N + 200) (D + f + 1)) f := by
  have hS7 := hA.1.1
  intro f
  induction f with
  | zero =>
    intro D part a k cost best σ hp hf ha hk hcost hbest h61 hW hb
    have h0 := popc_0 part hp hf
    subst h0
    have h77 := hW a home ha hh
    have hrel := wy_rel hA ha hh
    show ∃ σ', f_X7_ordersFrom_b (N + 200) (f_X7_ordersFrom (N + 200) D) _ _ _ _ _ _ = _ ∧ _
    rw [RV_0, OL_0]
    by_cases h1 : cost < best
    · by_cases h2 : best ≤ cost + wm A a home
      · refine ⟨σ, ?_, OD.rf σ, fun i _ => rfl, Or.inr ⟨by omega, hb, fun i _ => rfl⟩⟩
        unfold f_X7_ordersFrom_b
        rw [hb, l_7, pk_mul, nI_add, nI_clamp (by omega), h77, nI_add]
        exact if_T (of_eq_true (ilt_T h1 (by omega))) (if_T rfl (gd_k (inb_nI (by omega) (by decide)) (nm_k (if_T (of_eq_true (ile_T h2 (by omega))) rfl))))
      · obtain ⟨σ', e, o, g, -⟩ := x_o48 (N := N + 200) (f_X7_ordersFrom (N + 200) D) (k := k) (by omega) 7 (N + 192) 0 (srg σ 60 30 (nI (cost + wm A a home))) (by omega)
        rw [show N + 192 + 7 + 1 = N + 200 by omega] at e
        have hOs : OD σ (srg σ 60 30 (nI (cost + wm A a home))) := ⟨fun x y h => rg_s1 h, rfl, fun x h1 h2 => rfl⟩
        have hO : OD σ σ' := hOs.tr ⟨fun x y h => by rw [o.1], o.2.1, fun x h1 h2 => o.2.2 x h2⟩
        refine ⟨σ', ?_, hO, fun i hi => by rw [o.2.2 78 (by decide)]; rfl, Or.inl ⟨by omega, by omega, ?_, fun i hi => ?_⟩⟩
        · unfold f_X7_ordersFrom_b
          rw [hb, l_7, pk_mul, nI_add, nI_clamp (by omega), h77, nI_add]
          exact if_T (of_eq_true (ilt_T h1 (by omega))) (if_T rfl (gd_k (inb_nI (by omega) (by decide)) (nm_k (if_F (of_eq_false (ile_F (by omega) (by omega))) (nm_k e)))))
        · rw [o.1, rg_s2 ⟨rfl, rfl⟩]
          congr 1
          omega
        · rw [g i (Nat.zero_le _) hi]
          rfl
    · refine ⟨σ, ?_, OD.rf σ, fun i _ => rfl, Or.inr ⟨by omega, hb, fun i _ => rfl⟩⟩
      unfold f_X7_ordersFrom_b
      rw [hb]
      exact if_F (of_eq_false (ilt_F (by omega) (by omega))) rfl
  | succ f ihf =>
    intro D part a k cost best σ hp hf ha hk hcost hbest h61 hW hb
    have hne : ¬ part = 0 := fun q => by
      rw [q] at hf
      have : popc 0 = 0 := by decide
      omega
    show ∃ σ', f_X7_ordersFrom_b (N + 200) (f_X7_ordersFrom (N + 200) (D + f + 1)) _ _ _ _ _ _ = _ ∧ _
    by_cases h1 : cost < best
    · obtain ⟨σ', e, o, g, r⟩ := x_o91 (N := N + 200) hA (cost := cost) (best := best) hh (ihf D) hp hf ha hk hcost hbest (σ0 := σ) h61 hW (aS A) (N + 199 - aS A) 0 σ (by omega) (OD.rf σ) (fun i _ => rfl) (Or.inr ⟨fun q => Nat.lt_irrefl _ q.1, hb, fun i _ => rfl⟩)
      rw [show N + 199 - aS A + aS A + 1 = N + 200 by omega] at e
      refine ⟨σ', ?_, o, g, ?_⟩
      · unfold f_X7_ordersFrom_b
        rw [hb]
        exact if_T (of_eq_true (ilt_T h1 (by omega))) (if_F (of_eq_false (ieq_F hne (by omega) (by decide))) e)
      · rw [← RV_s hS7 hp hne] at r
        by_cases hlt : RV A home part a < 1000000
        · rw [← OL_s hS7 hp hne hlt] at r
          exact r
        · rcases r with ⟨r1, -⟩ | r
          · exact absurd r1 hlt
          · exact Or.inr r
    · refine ⟨σ, ?_, OD.rf σ, fun i _ => rfl, Or.inr ⟨by omega, hb, fun i _ => rfl⟩⟩
      unfold f_X7_ordersFrom_b
      rw [hb]
      exact if_F (of_eq_false (ilt_F (by omega) (by omega))) rfl
def erV (A : Ab) (home set : Nat) (x : Int32) : Int32 := if RV A home set home < 1000000 then (if x = -1 then nI (RV A home set home) else oe (OLi A home set home) x.toNatClampNeg) else -5
theorem x_er51 {N : Nat} {A : Ab} (hA : AOK A) {home set : Nat} (hh : home < aS A) (hs : set < 128) {x : Int32} (hx : x = -1 ∨ ∃ k, k ≤ 6 ∧ x = nI k) : ∀ m n j σ, j + m = 7 → ar σ 61 0 = nI (aS A) → MW A σ → rg σ 60 30 = nI 1000000000 → (∀ q, q < j → ar σ 79 q = -5) → ∃ σ', b_X7_errands_51 (N + 200) (n + m + 1) (nI home) (nI set) x (nI j) σ = some (erV A home set x, σ') ∧ OD σ σ'
  | 0, n, j, σ, hj, h61, hW, hb, h79 => by
    have hS7 := hA.1.1
    have e : j = 7 := by omega
    subst e
    have hp7 := popc_le set hs
    obtain ⟨σ', e, o, g, r⟩ := x_dfs (N := N) hA hh (popc set) (9 - popc set) set home 0 0 1000000000 σ hs rfl hh (by omega) (by omega) (by omega) h61 hW hb
    rw [show 9 - popc set + popc set + 1 = 10 by omega] at e
    have hle := RV_le hA (home := home) (a := home) hs
    refine ⟨σ', ?_, o⟩
    show b_X7_errands_51b (N + 200) (b_X7_errands_51 (N + 200) n) _ _ _ _ _ = _
    unfold b_X7_errands_51b
    refine if_T (of_eq_true (ile_T (Nat.le_refl 7) (by decide))) (bd_k e ?_)
    rcases r with ⟨r1, r2, r3, r4⟩ | ⟨r1, r2, r3⟩
    · rcases hx with rfl | ⟨k, hk, rfl⟩
      · rw [show erV A home set (-1) = nI (RV A home set home) from (if_pos r1).trans (if_pos rfl), r3, Nat.zero_add]
        exact if_T rfl (if_T (of_eq_true (ilt_T (by omega : RV A home set home < 1000000000) (by decide))) rfl)
      · have hne : ¬ nI k = -1 := i_nn (by omega) (by decide)
        rw [show erV A home set (nI k) = oe (OLi A home set home) k from (if_pos r1).trans ((if_neg hne).trans (by rw [nI_clamp (by omega)]))]
        refine if_F hne (gd_k (inb_nI (by omega) (by decide)) ?_)
        rw [nI_clamp (by omega), r4 k (by omega), if_neg (Nat.not_lt_zero k), Nat.sub_zero]
    · rw [show erV A home set x = -5 from if_neg (by omega), r2]
      rcases hx with rfl | ⟨k, hk, rfl⟩
      · exact if_T rfl (if_F (by decide) rfl)
      · have hne : ¬ nI k = -1 := i_nn (by omega) (by decide)
        refine if_F hne (gd_k (inb_nI (by omega) (by decide)) ?_)
        rw [nI_clamp (by omega), r3 k (by omega), h79 k (by omega)]
  | m + 1, n, j, σ, hj, h61, hW, hb, h79 => by
    have hj7 : j < 7 := by omega
    have hOs : OD σ (sar σ 79 j (-5)) := ⟨fun _ _ _ => rfl, rfl, fun x h1 h2 => ar_sar_ne h2⟩
    obtain ⟨σ', e, o⟩ := x_er51 (N := N) hA hh hs hx m n (j + 1) (sar σ 79 j (-5)) (by omega) h61 (fun a b ha hb => by rw [ar_sar_ne (by decide)]; exact hW a b ha hb) hb (fun q hq => by
      by_cases h : q = j
      · rw [ar_s2 ⟨rfl, h⟩]
      · rw [ar_s1 (by omega)]
        exact h79 q (by omega))
    refine ⟨σ', ?_, hOs.tr o⟩
    show b_X7_errands_51b (N + 200) (b_X7_errands_51 (N + 200) (n + m + 1)) _ _ _ _ _ = _
    unfold b_X7_errands_51b
    rw [nI_clamp (by omega), l_1, nI_add]
    exact if_F (of_eq_false (ile_F hj7 (by decide))) (gd_k (inb_nI hj7 (by decide)) (nm_k (nm_k e)))
theorem shl_S : ∀ S, S ≤ 7 → (1 : Int32) <<< (nI S &&& 31) = nI (2 ^ S) := by decide
theorem shr_S : ∀ S, S ≤ 7 → ((nI S &&& 31).toBitVec.smod 32).toNat = S := by decide
theorem x_in_m {N : Nat} {σ : Sg} {x : Int32} (hx : x = -1 ∨ ∃ k, k ≤ 6 ∧ x = nI k) : f_X7_in N x (-1) 6 σ = some (nI 1, σ) := by
  unfold f_X7_in b_X7_in_14
  rcases hx with rfl | ⟨k, hk, rfl⟩
  · rfl
  · refine if_F (fun q => ?_) (if_F (of_eq_false (ilt_F hk (by decide))) rfl)
    have h1 := Int32.lt_iff_toInt_lt.mp q
    have h2 : (-1 : Int32).toInt = -1 := by decide
    rw [nI_toInt (by omega), h2] at h1
    omega
theorem x_in_m0 {N : Nat} {σ : Sg} {x : Int32} (hx : x < -1 ∨ ∃ k, 6 < k ∧ k < 2 ^ 31 ∧ x = nI k) : f_X7_in N x (-1) 6 σ = some (nI 0, σ) := by
  unfold f_X7_in b_X7_in_14
  rcases hx with h | ⟨k, hk, hk2, rfl⟩
  · exact if_T h rfl
  · refine if_F (fun q => ?_) (if_T (of_eq_true (ilt_T hk hk2)) rfl)
    have h1 := Int32.lt_iff_toInt_lt.mp q
    have h2 : (-1 : Int32).toInt = -1 := by decide
    rw [nI_toInt hk2, h2] at h1
    omega
theorem op_errands {N : Nat} {σ : Sg} {A : Ab} (hI : Inv A σ) (x y z : Int32) : Ok2 (f_X6_errands (N + 200) x y z) (f_X7_errands (N + 200) x y z) σ := by
  obtain ⟨⟨hS7, hD99, hT100, hW5, hZ7⟩, hAS, hAT, hAZ, hAW, hAW0⟩ := id hI.1
  obtain ⟨-, hC, hM, hK, r, hr, r1, r2, r3⟩ := id hI
  obtain ⟨⟨c1, c2, c3, c4, c5⟩, cS, cT, cZ, cW⟩ := id hC
  obtain ⟨⟨m1, m2, m3, m4, m5, m6⟩, mS, mT, mZ, mW⟩ := id hM
  unfold f_X6_errands f_X7_errands
  rcases i_cases x with h | ⟨a, ha, rfl⟩
  · exact ⟨-1, σ, σ, A, bd2_k (x_has_lo h) (if_T n00 rfl), bd2_k (x_isS_lo h) (if_T n00 rfl), hI⟩
  by_cases haS : aS A ≤ a
  · exact ⟨-1, σ, σ, A, bd2_k (x_has_F c1 hS7 haS ha) (if_T n00 rfl), bd2_k (x_isS_F m1 hS7 haS ha) (if_T n00 rfl), hI⟩
  have haS' : a < aS A := by omega
  have hz : z < -1 ∨ (∃ k, 6 < k ∧ k < 2 ^ 31 ∧ z = nI k) ∨ (z = -1 ∨ ∃ k, k ≤ 6 ∧ z = nI k) := by
    rcases i_cases z with h | ⟨k, hk, rfl⟩
    · have h1 := Int32.lt_iff_toInt_lt.mp h
      have h2 : (-1 : Int32).toInt = -1 := by decide
      rw [nI_toInt (by decide)] at h1
      by_cases q : z = -1
      · exact Or.inr (Or.inr (Or.inl q))
      · left
        rw [Int32.lt_iff_toInt_lt, h2]
        have : ¬ z.toInt = -1 := fun e => q (Int32.toInt_inj.mp (e.trans h2.symm))
        omega
    · by_cases q : 6 < k
      · exact Or.inr (Or.inl ⟨k, q, hk, rfl⟩)
      · exact Or.inr (Or.inr (Or.inr ⟨k, by omega, rfl⟩))
  rcases hz with hz | ⟨k, hk6, hk, rfl⟩ | hz
  · exact ⟨-1, σ, σ, A, bd2_k (x_has_T c1 hS7 haS') (if_F n10 (if_T hz rfl)), bd2_k (x_isS_T m1 hS7 haS') (if_F n10 (bd2_k (x_in_m0 (Or.inl hz)) (if_T n00 rfl))), hI⟩
  · have hn1 : ¬ nI k < -1 := fun q => by
      have h1 := Int32.lt_iff_toInt_lt.mp q
      have h2 : (-1 : Int32).toInt = -1 := by decide
      rw [nI_toInt hk, h2] at h1
      omega
    exact ⟨-1, σ, σ, A, bd2_k (x_has_T c1 hS7 haS') (if_F n10 (if_F hn1 (if_F (of_eq_false (ilt_F (by omega : 7 ≤ k) hk)) rfl))), bd2_k (x_isS_T m1 hS7 haS') (if_F n10 (bd2_k (x_in_m0 (Or.inr ⟨k, hk6, hk, rfl⟩)) (if_T n00 rfl))), hI⟩
  have hz1 : ¬ z < -1 := fun q => by
    have h1 := Int32.lt_iff_toInt_lt.mp q
    have h2 : (-1 : Int32).toInt = -1 := by decide
    rcases hz with rfl | ⟨k, hk, rfl⟩
    · omega
    · rw [nI_toInt (by omega), h2] at h1
      omega
  have hz7 : z < 7 := by
    rcases hz with rfl | ⟨k, hk, rfl⟩
    · decide
    · exact of_eq_true (ilt_T (by omega : k < 7) (by decide))
  rcases i_cases y with h | ⟨s, hs, rfl⟩
  · exact ⟨-2, σ, σ, A, bd2_k (x_has_T c1 hS7 haS') (if_F n10 (if_F hz1 (if_T hz7 (if_T h rfl)))), bd2_k (x_isS_T m1 hS7 haS') (if_F n10 (bd2_k (x_in_m hz) (if_F n10 (if_T h rfl)))), hI⟩
  have hp2 : 2 ^ aS A ≤ 2 ^ 7 := Nat.pow_le_pow_right (by decide) hS7
  have hp3 : 0 < 2 ^ aS A := Nat.pow_pos (by decide)
  have m1' : ar σ 61 (0 : Int32).toNatClampNeg = nI (aS A) := m1
  have hshr : nI s >>> (nI (aS A) &&& 31) = nI (s / 2 ^ aS A) := pk_shrN hs _ _ (shr_S _ hS7)
  by_cases hset : 2 ^ aS A ≤ s
  · refine ⟨-2, σ, σ, A, bd2_k (x_has_T c1 hS7 haS') (if_F n10 (if_F hz1 (if_T hz7 (if_F (of_eq_false (ilt_F (Nat.zero_le _) hs)) ?_)))), bd2_k (x_isS_T m1 hS7 haS') (if_F n10 (bd2_k (x_in_m hz) (if_F n10 (if_F (of_eq_false (ilt_F (Nat.zero_le _) hs)) (gd_k rfl ?_))))), hI⟩
    · rw [c1, shl_S _ hS7]
      exact if_F (of_eq_false (ilt_F hset hs)) rfl
    · rw [m1', hshr]
      have hd : 1 ≤ s / 2 ^ aS A := (Nat.one_le_div_iff hp3).mpr hset
      have hd2 : s / 2 ^ aS A ≤ s := Nat.div_le_self _ _
      exact if_F (of_eq_false (ieq_F (by omega : ¬ s / 2 ^ aS A = 0) (by omega) (by decide))) rfl
  have hset' : s < 2 ^ aS A := by omega
  have hs7 : s < 128 := by omega
  obtain ⟨σ1, e1, s1, q1⟩ := x_load3 (N := N) hI.1 hC
  obtain ⟨σ2, e2, o2, t2⟩ := x_plan2 (N := N + 0) hI.1 haS' hs7 (s + 1) (N + 199 - (s + 1)) 0 σ1 (by omega) q1 (fun p hp => absurd hp (Nat.not_lt_zero p))
  rw [show N + 199 - (s + 1) + (s + 1) + 1 = N + 200 by omega] at e2
  have hR2 := q1.o56 o2
  have hI2 := (hI.sm s1).sm (o2.sm (by decide))
  have hM2 := hI2.2.2.1
  obtain ⟨σ3, e3, s3, w3⟩ := x_lfw (N := N) hI.1 hM2
  have hI3 := hI2.sm s3
  have hs4 : Sm σ3 (srg σ3 60 30 (nI 1000000000)) := (Sm.rf σ3).srg _ (by decide)
  obtain ⟨σ5, e5, o5⟩ := x_er51 (N := N) hI.1 haS' hs7 hz 7 (N + 192) 0 (srg σ3 60 30 (nI 1000000000)) (by omega) hI3.2.2.1.1.1 w3 (rg_s2 ⟨rfl, rfl⟩) (fun q hq => absurd hq (Nat.not_lt_zero q))
  rw [show N + 192 + 7 + 1 = N + 200 by omega] at e5
  have hss : s &&& (127 ^^^ s) = 0 := by
    have : ∀ s, s < 128 → s &&& (127 ^^^ s) = 0 := by decide +kernel
    exact this s hs7
  have hle := RV_le hI.1 (home := a) (a := a) hs7
  have kp := x_planned (N := N + 200) hI.1 haS' hs7 t2
  refine ⟨erV A a s z, σ2, σ5, A, bd2_k (x_has_T c1 hS7 haS') (if_F n10 (if_F hz1 (if_T hz7 (if_F (of_eq_false (ilt_F (Nat.zero_le _) hs)) ?_)))), bd2_k (x_isS_T hM2.1.1 hS7 haS') (if_F n10 (bd2_k (x_in_m hz) (if_F n10 (if_F (of_eq_false (ilt_F (Nat.zero_le _) hs)) (gd_k rfl ?_))))), (hI3.sm hs4).sm o5.sm⟩
  · rw [c1, shl_S _ hS7]
    refine if_T (of_eq_true (ilt_T hset' (by omega))) (bd_k e1 (bd_k e2 ?_))
    rcases hz with rfl | ⟨k, hk, rfl⟩
    · refine if_F (by decide) (bd2_k kp ?_)
      rw [show erV A a s (-1) = if RV A a s a < 1000000 then nI (RV A a s a) else -5 from rfl]
    · have hne : ¬ nI k = -1 := i_nn (by omega) (by decide)
      rw [show erV A a s (nI k) = if RV A a s a < 1000000 then oe (OLi A a s a) k else -5 from by unfold erV; rw [if_neg hne, nI_clamp (by omega)]]
      refine if_T (of_eq_true (ile_T (Nat.zero_le _) (by omega))) (bd2_k (x := if RV A a s a < 1000000 then oe (OLi A a s a) k else -5) (y := σ2) ?_ rfl)
      unfold f_X3_inOrder
      by_cases h : RV A a s a < 1000000
      · rw [if_pos h] at kp
        rw [if_pos h]
        have ko := x_inO (N := N) hI.1 hR2 (home := a) (set := s) (k := k) hk t2 k (N + 198 - k) 0 s a (by omega) haS' hs7 (Nat.le_refl _) hss h
        rw [show N + 198 - k + k + 2 = N + 200 by omega] at ko
        exact bd2_k kp (if_T (of_eq_true (ile_T (Nat.zero_le _) (by omega))) ko)
      · rw [if_neg h] at kp
        rw [if_neg h]
        exact bd2_k kp (if_F (by decide) rfl)
  · have m1'' : ar σ2 61 (0 : Int32).toNatClampNeg = nI (aS A) := hM2.1.1
    rw [m1'', hshr, Nat.div_eq_of_lt hset']
    exact if_T rfl (bd_k e3 (nm_k e5))
