/-! the class's network is built -/
def OQ (P : Nat → Bool) (Q : Nat → Nat → Bool) (σ σ' : Sg) : Prop := (∀ k j, Q k j = false → rg σ' k j = rg σ k j) ∧ ∀ k, P k = false → ar σ' k = ar σ k
theorem OQ.rf (P : Nat → Bool) (Q : Nat → Nat → Bool) (σ : Sg) : OQ P Q σ σ := ⟨fun _ _ _ => rfl, fun _ _ => rfl⟩
theorem OQ.tr {P : Nat → Bool} {Q : Nat → Nat → Bool} {a b c : Sg} (h : OQ P Q a b) (g : OQ P Q b c) : OQ P Q a c := ⟨fun k j q => (g.1 k j q).trans (h.1 k j q), fun k q => (g.2 k q).trans (h.2 k q)⟩
theorem OQ.sar {P : Nat → Bool} {Q : Nat → Nat → Bool} {a b : Sg} (h : OQ P Q a b) {k : Nat} (j : Nat) (v : Int32) (hk : P k = true) : OQ P Q a (sar b k j v) := ⟨h.1, fun q hq => (ar_sar_ne (fun e => by rw [e, hk] at hq; cases hq)).trans (h.2 q hq)⟩
theorem OQ.srg {P : Nat → Bool} {Q : Nat → Nat → Bool} {a b : Sg} (h : OQ P Q a b) {k j : Nat} (v : Int32) (hk : Q k j = true) : OQ P Q a (srg b k j v) := ⟨fun x y q => by
  rw [rg_srg, if_neg (fun w => by rw [w.1, w.2, hk] at q; cases q)]
  exact h.1 x y q, h.2⟩
theorem OQ.mo {P P' : Nat → Bool} {Q : Nat → Nat → Bool} {a b : Sg} (h : OQ P Q a b) (g : ∀ k, P' k = false → P k = false) : OQ P' Q a b := ⟨h.1, fun k hk => h.2 k (g k hk)⟩
theorem OW.oq {P : Nat → Bool} {a b : Sg} (h : OW P a b) (Q : Nat → Nat → Bool) : OQ P Q a b := ⟨fun k j _ => by rw [h.1], h.2⟩
theorem OQ.sm {P : Nat → Bool} {Q : Nat → Nat → Bool} {a b : Sg} (h : OQ P Q a b) (g : ∀ k, cA k = true → P k = false) (g' : ∀ k j, cR k j = true → Q k j = false) : Sm a b := ⟨fun k j e => h.1 k j (g' k j e), fun k hk => h.2 k (g k hk)⟩
def pJ (k : Nat) : Bool := decide (k = 47 ∨ k = 48 ∨ k = 49 ∨ k = 50)
def pB (k : Nat) : Bool := decide (k = 47 ∨ k = 48 ∨ k = 49 ∨ k = 50 ∨ k = 51)
def qJ (k j : Nat) : Bool := decide (k = 7 ∧ j = 6)
/-- arcs behind one edge more -/
theorem wx_ap {st fi al : Nat → Nat} {big : Int} {l : List Nat} {e q : Nat} (h : q < l.length) : wS (l ++ [e]) q = wS l q ∧ wD (l ++ [e]) q = wD l q ∧ wO st fi (l ++ [e]) q = wO st fi l q ∧ wC al big (l ++ [e]) q = wC al big l q := by
  unfold wS wD wO wC
  rw [getD_ap h]
  exact ⟨rfl, rfl, rfl, rfl⟩
theorem wx_end {st fi al : Nat → Nat} {big : Int} {l : List Nat} {e : Nat} : wS (l ++ [e]) l.length = nSr e ∧ wD (l ++ [e]) l.length = nDs e ∧ wO st fi (l ++ [e]) l.length = nCo st fi e ∧ wC al big (l ++ [e]) l.length = nC al big e := by
  unfold wS wD wO wC
  rw [getD_end]
  exact ⟨rfl, rfl, rfl, rfl⟩
theorem arc_ap {st fi al : Nat → Nat} {big : Int} {l : List Nat} {e a : Nat} (h : a < 2 * l.length) : tlA (wS (l ++ [e])) (wD (l ++ [e])) a = tlA (wS l) (wD l) a ∧ hdA (wS (l ++ [e])) (wD (l ++ [e])) a = hdA (wS l) (wD l) a ∧ rmA (wC al big (l ++ [e])) (fun _ => 0) a = rmA (wC al big l) (fun _ => 0) a ∧ wtA (wO st fi (l ++ [e])) a = wtA (wO st fi l) a := by
  obtain ⟨h1, h2, h3, h4⟩ := wx_ap (st := st) (fi := fi) (al := al) (big := big) (e := e) (show a / 2 < l.length by omega)
  unfold tlA hdA rmA wtA
  rw [h1, h2, h3, h4]
  exact ⟨rfl, rfl, rfl, rfl⟩
theorem arc_e0 {st fi al : Nat → Nat} {big : Int} {l : List Nat} {e : Nat} : tlA (wS (l ++ [e])) (wD (l ++ [e])) (2 * l.length) = nSr e ∧ hdA (wS (l ++ [e])) (wD (l ++ [e])) (2 * l.length) = nDs e ∧ rmA (wC al big (l ++ [e])) (fun _ => 0) (2 * l.length) = nC al big e ∧ wtA (wO st fi (l ++ [e])) (2 * l.length) = nCo st fi e := by
  obtain ⟨h1, h2, h3, h4⟩ := wx_end (st := st) (fi := fi) (al := al) (big := big) (l := l) (e := e)
  have e1 : 2 * l.length % 2 = 0 := by omega
  have e2 : 2 * l.length / 2 = l.length := by omega
  unfold tlA hdA rmA wtA
  rw [e2, if_pos e1, if_pos e1, if_pos e1, if_pos e1, h1, h2, h3, h4]
  exact ⟨rfl, rfl, Int.sub_zero _, rfl⟩
theorem arc_e1 {st fi al : Nat → Nat} {big : Int} {l : List Nat} {e : Nat} : tlA (wS (l ++ [e])) (wD (l ++ [e])) (2 * l.length + 1) = nDs e ∧ hdA (wS (l ++ [e])) (wD (l ++ [e])) (2 * l.length + 1) = nSr e ∧ rmA (wC al big (l ++ [e])) (fun _ => 0) (2 * l.length + 1) = 0 ∧ wtA (wO st fi (l ++ [e])) (2 * l.length + 1) = -(nCo st fi e) := by
  obtain ⟨h1, h2, h3, h4⟩ := wx_end (st := st) (fi := fi) (al := al) (big := big) (l := l) (e := e)
  have e1 : ¬ (2 * l.length + 1) % 2 = 0 := by omega
  have e2 : (2 * l.length + 1) / 2 = l.length := by omega
  unfold tlA hdA rmA wtA
  rw [e2, if_neg e1, if_neg e1, if_neg e1, if_neg e1, h1, h2, h3]
  exact ⟨rfl, rfl, rfl, rfl⟩
theorem c_put {N a : Nat} {σ : Sg} {x1 x2 x3 x4 : Int32} (g : rg σ 7 6 = nI a) (h : a < 140) : f_X1_putEdge N x1 x2 x3 x4 σ = some (srg (sar (sar (sar (sar σ 47 a x1) 48 a x2) 49 a x3) 50 a x4) 7 6 (nI (a + 1))) := by
  have e : (rg σ 7 6).toNatClampNeg = a := by rw [g]; exact nI_clamp (by omega)
  have b : inb (rg σ 7 6) 140 = true := by rw [g]; exact inb_nI h (by decide)
  unfold f_X1_putEdge
  refine gd_k b <| nm_k <| gd_k b <| nm_k <| gd_k b <| nm_k <| gd_k b <| nm_k <| nm_k ?_
  show some (srg (sar (sar (sar (sar σ 47 (rg σ 7 6).toNatClampNeg x1) 48 (rg σ 7 6).toNatClampNeg x2) 49 (rg σ 7 6).toNatClampNeg x3) 50 (rg σ 7 6).toNatClampNeg x4) 7 6 (rg σ 7 6 + 1)) = _
  rw [e, g, nI_1]
theorem put_ar (σ : Sg) (a : Nat) (x1 x2 x3 x4 v : Int32) (i : Nat) : ar (srg (sar (sar (sar (sar σ 47 a x1) 48 a x2) 49 a x3) 50 a x4) 7 6 v) 47 i = (if i = a then x1 else ar σ 47 i) ∧ ar (srg (sar (sar (sar (sar σ 47 a x1) 48 a x2) 49 a x3) 50 a x4) 7 6 v) 48 i = (if i = a then x2 else ar σ 48 i) ∧ ar (srg (sar (sar (sar (sar σ 47 a x1) 48 a x2) 49 a x3) 50 a x4) 7 6 v) 49 i = (if i = a then x3 else ar σ 49 i) ∧ ar (srg (sar (sar (sar (sar σ 47 a x1) 48 a x2) 49 a x3) 50 a x4) 7 6 v) 50 i = (if i = a then x4 else ar σ 50 i) := by
  rw [ar_srg]
  refine ⟨?_, ?_, ?_, ?_⟩
  · rw [ar_sar_ne (by decide), ar_sar_ne (by decide), ar_sar_ne (by decide), ar_sar]
    simp only [true_and]
  · rw [ar_sar_ne (by decide), ar_sar_ne (by decide), ar_sar, ar_sar_ne (by decide)]
    simp only [true_and]
  · rw [ar_sar_ne (by decide), ar_sar, ar_sar_ne (by decide), ar_sar_ne (by decide)]
    simp only [true_and]
  · rw [ar_sar, ar_sar_ne (by decide), ar_sar_ne (by decide), ar_sar_ne (by decide)]
    simp only [true_and]
theorem put_oq {σ0 σ : Sg} (h : OQ pJ qJ σ0 σ) (a : Nat) (x1 x2 x3 x4 v : Int32) : OQ pJ qJ σ0 (srg (sar (sar (sar (sar σ 47 a x1) 48 a x2) 49 a x3) 50 a x4) 7 6 v) := ((((h.sar a x1 (by decide)).sar a x2 (by decide)).sar a x3 (by decide)).sar a x4 (by decide)).srg v (by decide)
/-- the network of a row of edges, nothing sent yet, stands in the class -/
def CL (st fi al : Nat → Nat) (l : List Nat) (σ : Sg) : Prop := CG l.length (wS l) (wD l) (wO st fi l) (wC al 1000000 l) (fun _ => 0) σ
theorem c_join {N : Nat} {l : List Nat} {e : Nat} {st fi al : Nat → Nat} {σ : Sg} (hl : l.length < 70) (hG : CL st fi al l σ) {x1 x2 x3 x4 : Int32} (h1 : x1 = nI (nSr e)) (h2 : x2 = nI (nDs e)) (h3 : x3 = zI (nC al 1000000 e)) (h4 : x4 = zI (nCo st fi e)) : ∃ σ', f_X1_join N x1 x2 x3 x4 σ = some σ' ∧ OQ pJ qJ σ σ' ∧ CL st fi al (l ++ [e]) σ' := by
  subst h1 h2 h3 h4
  obtain ⟨g0, g1⟩ := hG
  have o1 := put_oq (OQ.rf pJ qJ σ) (2 * l.length) (nI (nSr e)) (nI (nDs e)) (zI (nC al 1000000 e)) (zI (nCo st fi e)) (nI (2 * l.length + 1))
  have a1 := put_ar σ (2 * l.length) (nI (nSr e)) (nI (nDs e)) (zI (nC al 1000000 e)) (zI (nCo st fi e)) (nI (2 * l.length + 1))
  have e1 := c_put (N := N) (x1 := nI (nSr e)) (x2 := nI (nDs e)) (x3 := zI (nC al 1000000 e)) (x4 := zI (nCo st fi e)) g0 (show 2 * l.length < 140 by omega)
  have r1 : rg (srg (sar (sar (sar (sar σ 47 (2 * l.length) (nI (nSr e))) 48 (2 * l.length) (nI (nDs e))) 49 (2 * l.length) (zI (nC al 1000000 e))) 50 (2 * l.length) (zI (nCo st fi e))) 7 6 (nI (2 * l.length + 1))) 7 6 = nI (2 * l.length + 1) := rg_s2 ⟨rfl, rfl⟩
  generalize (srg (sar (sar (sar (sar σ 47 (2 * l.length) (nI (nSr e))) 48 (2 * l.length) (nI (nDs e))) 49 (2 * l.length) (zI (nC al 1000000 e))) 50 (2 * l.length) (zI (nCo st fi e))) 7 6 (nI (2 * l.length + 1))) = σ1 at o1 a1 e1 r1
  have o2 := put_oq o1 (2 * l.length + 1) (nI (nDs e)) (nI (nSr e)) 0 (-(zI (nCo st fi e))) (nI (2 * l.length + 1 + 1))
  have a2 := put_ar σ1 (2 * l.length + 1) (nI (nDs e)) (nI (nSr e)) 0 (-(zI (nCo st fi e))) (nI (2 * l.length + 1 + 1))
  have e2 := c_put (N := N) (x1 := nI (nDs e)) (x2 := nI (nSr e)) (x3 := 0) (x4 := -(zI (nCo st fi e))) r1 (show 2 * l.length + 1 < 140 by omega)
  have r2 : rg (srg (sar (sar (sar (sar σ1 47 (2 * l.length + 1) (nI (nDs e))) 48 (2 * l.length + 1) (nI (nSr e))) 49 (2 * l.length + 1) 0) 50 (2 * l.length + 1) (-(zI (nCo st fi e)))) 7 6 (nI (2 * l.length + 1 + 1))) 7 6 = nI (2 * l.length + 1 + 1) := rg_s2 ⟨rfl, rfl⟩
  generalize (srg (sar (sar (sar (sar σ1 47 (2 * l.length + 1) (nI (nDs e))) 48 (2 * l.length + 1) (nI (nSr e))) 49 (2 * l.length + 1) 0) 50 (2 * l.length + 1) (-(zI (nCo st fi e)))) 7 6 (nI (2 * l.length + 1 + 1))) = σ2 at o2 a2 e2 r2
  have hlen : (l ++ [e]).length = l.length + 1 := by simp
  refine ⟨σ2, ?_, o2, ?_⟩
  · unfold f_X1_join
    rw [g0, l_2, nI_add, l_140]
    exact if_T (of_eq_true (ile_T (show 2 * l.length + 2 ≤ 140 by omega) (by decide))) (bd_k e1 (bd_k e2 rfl))
  · unfold CL
    rw [hlen]
    refine ⟨r2, fun a ha => ?_⟩
    obtain ⟨p1, p2, p3, p4⟩ := a2 a
    obtain ⟨q1, q2, q3, q4⟩ := a1 a
    rw [p1, p2, p3, p4, q1, q2, q3, q4]
    by_cases c1 : a = 2 * l.length + 1
    · obtain ⟨w1, w2, w3, w4⟩ := arc_e1 (st := st) (fi := fi) (al := al) (big := 1000000) (l := l) (e := e)
      rw [if_pos c1, if_pos c1, if_pos c1, if_pos c1, c1, w1, w2, w3, w4]
      exact ⟨rfl, rfl, z_0, zI_neg _⟩
    · rw [if_neg c1, if_neg c1, if_neg c1, if_neg c1]
      by_cases c2 : a = 2 * l.length
      · obtain ⟨w1, w2, w3, w4⟩ := arc_e0 (st := st) (fi := fi) (al := al) (big := 1000000) (l := l) (e := e)
        rw [if_pos c2, if_pos c2, if_pos c2, if_pos c2, c2, w1, w2, w3, w4]
        exact ⟨rfl, rfl, rfl, rfl⟩
      · obtain ⟨w1, w2, w3, w4⟩ := arc_ap (st := st) (fi := fi) (al := al) (big := 1000000) (l := l) (e := e) (show a < 2 * l.length by omega)
        rw [if_neg c2, if_neg c2, if_neg c2, if_neg c2, w1, w2, w3, w4]
        exact g1 a (by omega)
/-! what is asked of a network -/
def BN (S : Nat) (op : Nat → Nat → Bool) (st fi al : Nat → Nat) (xv : Nat → Int) (σ : Sg) : Prop := rg σ 7 0 = nI S ∧ ∀ i, i < S → (∀ j, j < S → (ar σ 42 i >>> (nI j &&& 31)) &&& 1 = nI (op i j).toNat) ∧ ar σ 43 i = nI (al i) ∧ ar σ 44 i = zI (xv i) ∧ ar σ 45 i = nI (fi i) ∧ ar σ 46 i = nI (st i)
theorem BN.oq {S : Nat} {op : Nat → Nat → Bool} {st fi al : Nat → Nat} {xv : Nat → Int} {P : Nat → Bool} {σ σ' : Sg} (h : BN S op st fi al xv σ) (g : OQ P qJ σ σ') (hP : P 42 = false ∧ P 43 = false ∧ P 44 = false ∧ P 45 = false ∧ P 46 = false) : BN S op st fi al xv σ' := by
  obtain ⟨h0, h1⟩ := h
  obtain ⟨p1, p2, p3, p4, p5⟩ := hP
  refine ⟨(g.1 7 0 (by decide)).trans h0, fun i hi => ?_⟩
  rw [g.2 42 p1, g.2 43 p2, g.2 44 p3, g.2 45 p4, g.2 46 p5]
  exact h1 i hi
theorem n_t (st fi al : Nat → Nat) (big : Int) {k t : Nat} (h : t < 7) : nSr (11 * k + t) = k ∧ nDs (11 * k + t) = t ∧ nCo st fi (11 * k + t) = (st k : Int) ∧ nC al big (11 * k + t) = big := by
  have e1 : (11 * k + t) % 11 = t := by omega
  have e2 : (11 * k + t) / 11 = k := by omega
  unfold nSr nDs nCo nC
  rw [e1, e2, if_neg (by omega), if_pos h, if_pos h, if_neg (by omega)]
  exact ⟨rfl, rfl, rfl, rfl⟩
theorem n_7 (st fi al : Nat → Nat) (big : Int) (k : Nat) : nSr (11 * k + 7) = k ∧ nDs (11 * k + 7) = 7 ∧ nCo st fi (11 * k + 7) = 0 ∧ nC al big (11 * k + 7) = (al k : Int) := by
  have e1 : (11 * k + 7) % 11 = 7 := by omega
  have e2 : (11 * k + 7) / 11 = k := by omega
  unfold nSr nDs nCo nC
  rw [e1, e2]
  exact ⟨rfl, rfl, rfl, rfl⟩
theorem n_8 (st fi al : Nat → Nat) (big : Int) (k : Nat) : nSr (11 * k + 8) = 7 ∧ nDs (11 * k + 8) = k ∧ nCo st fi (11 * k + 8) = 0 ∧ nC al big (11 * k + 8) = (al k : Int) := by
  have e1 : (11 * k + 8) % 11 = 8 := by omega
  have e2 : (11 * k + 8) / 11 = k := by omega
  unfold nSr nDs nCo nC
  rw [e1, e2]
  exact ⟨rfl, rfl, rfl, rfl⟩
theorem n_9 (st fi al : Nat → Nat) (big : Int) (k : Nat) : nSr (11 * k + 9) = k ∧ nDs (11 * k + 9) = 7 ∧ nCo st fi (11 * k + 9) = (fi k : Int) ∧ nC al big (11 * k + 9) = big := by
  have e1 : (11 * k + 9) % 11 = 9 := by omega
  have e2 : (11 * k + 9) / 11 = k := by omega
  unfold nSr nDs nCo nC
  rw [e1, e2]
  exact ⟨rfl, rfl, rfl, rfl⟩
theorem n_10 (st fi al : Nat → Nat) (big : Int) (k : Nat) : nSr (11 * k + 10) = 7 ∧ nDs (11 * k + 10) = k ∧ nCo st fi (11 * k + 10) = (fi k : Int) ∧ nC al big (11 * k + 10) = big := by
  have e1 : (11 * k + 10) % 11 = 10 := by omega
  have e2 : (11 * k + 10) / 11 = k := by omega
  unfold nSr nDs nCo nC
  rw [e1, e2]
  exact ⟨rfl, rfl, rfl, rfl⟩
theorem z_M : (1000000 : Int32) = zI 1000000 := (Eq.refl (zI 1000000)).trans rfl
theorem b_1 (b : Bool) : (nI b.toNat = 1) = (b = true) := by
  cases b <;> decide
section BU
variable {S : Nat} {op : Nat → Nat → Bool} {st fi al : Nat → Nat} {xv : Nat → Int}
theorem c_b115 {N k : Nat} (hS : S ≤ 7) (hk : k < S) {L0 : List Nat} (hlen : (L0 ++ ldl (op k) (11 * k) S).length ≤ 70) (k15 : Int32 → Int32 → Sg → Option Sg) (x1 : Int32) : ∀ m n j σ, j + m = S → BN S op st fi al xv σ → CL st fi al (L0 ++ ldl (op k) (11 * k) j) σ → ∃ σ', b_X1_build_115 N k15 (n + m + 1) x1 (nI k) (nI j) σ = k15 x1 (nI (k + 1)) σ' ∧ OQ pJ qJ σ σ' ∧ CL st fi al (L0 ++ ldl (op k) (11 * k) S) σ'
  | 0, n, j, σ, hj, hB, hG => by
    have e : j = S := by omega
    subst e
    refine ⟨σ, ?_, OQ.rf pJ qJ σ, hG⟩
    show b_X1_build_115b N k15 (b_X1_build_115 N k15 n) _ _ _ _ = _
    unfold b_X1_build_115b
    rw [hB.1]
    refine if_T (of_eq_true (ile_T (Nat.le_refl _) (by omega))) (nm_k ?_)
    rw [nI_1]
  | m + 1, n, j, σ, hj, hB, hG => by
    have hjS : j < S := by omega
    obtain ⟨b1, b2, b3, b4, b5⟩ := hB.2 k hk
    have c0 : ¬ nI S ≤ nI j := of_eq_false (ile_F hjS (by omega))
    have bk : inb (nI k) 7 = true := inb_nI (by omega) (by decide)
    have e1 : ∀ σ', b_X1_build_151 N k15 (b_X1_build_115 N k15 (n + m + 1)) x1 (nI k) (nI j) σ' = b_X1_build_115 N k15 (n + m + 1) x1 (nI k) (nI (j + 1)) σ' := fun σ' => by
      unfold b_X1_build_151
      refine nm_k ?_
      rw [nI_1]
    show ∃ σ', b_X1_build_115b N k15 (b_X1_build_115 N k15 (n + m + 1)) _ _ _ _ = _ ∧ _
    unfold b_X1_build_115b
    rw [hB.1, nI_clamp (show k < 2 ^ 31 by omega), b1 j hjS, b5]
    cases ho : op k j with
    | false =>
      obtain ⟨σ2, e2, o2, i2⟩ := c_b115 hS hk hlen k15 x1 m n (j + 1) σ (by omega) hB (by
        show CL st fi al (L0 ++ (ldl (op k) (11 * k) j ++ (if op k j = true then [11 * k + j] else []))) σ
        rw [ho, if_neg (by decide), List.append_nil]
        exact hG)
      refine ⟨σ2, if_F c0 <| gd_k bk <| if_F (by decide) ?_, o2, i2⟩
      rw [e1]
      exact e2
    | true =>
      have hlt : (L0 ++ ldl (op k) (11 * k) j).length < 70 := by
        have h1 := ctn_up (op k) S (show j + 1 ≤ S by omega)
        have h2 : ctn (op k) (j + 1) = ctn (op k) j + (op k j).toNat := rfl
        rw [ho] at h2
        rw [List.length_append, ldl_len] at hlen ⊢
        have h3 : true.toNat = 1 := rfl
        omega
      obtain ⟨n1, n2, n3, n4⟩ := n_t st fi al 1000000 (k := k) (show j < 7 by omega)
      obtain ⟨σ1, e2, o2, i2⟩ := c_join (N := N) (e := 11 * k + j) (x1 := nI k) (x2 := nI j) (x3 := 1000000) (x4 := nI (st k)) hlt hG (by rw [n1]) (by rw [n2]) (by rw [n4]; exact z_M) (by rw [n3]; exact nI_z _)
      obtain ⟨σ2, e3, o3, i3⟩ := c_b115 hS hk hlen k15 x1 m n (j + 1) σ1 (by omega) (hB.oq o2 (by decide)) (by
        show CL st fi al (L0 ++ (ldl (op k) (11 * k) j ++ (if op k j = true then [11 * k + j] else []))) σ1
        rw [ho, if_pos rfl, ← List.append_assoc]
        exact i2)
      refine ⟨σ2, if_F c0 <| gd_k bk <| if_T (by decide) <| gd_k bk <| bd_k e2 ?_, o2.tr o3, i3⟩
      rw [e1]
      exact e3
theorem xx_s (xv : Nat → Int) {k : Nat} (hk : k < 7) (v : Nat) : xx xv (k + 1) v = if v = k then xv k else if v = 7 then xx xv k 7 - xv k else xx xv k v := by
  unfold xx
  by_cases h1 : v = k
  · subst h1
    rw [if_pos (by omega), if_pos rfl]
  · rw [if_neg h1]
    by_cases h2 : v = 7
    · subst h2
      rw [if_neg (by omega), if_pos rfl, if_pos rfl, if_neg (by omega), if_pos rfl]
      show -(sx xv k + xv k) = _
      omega
    · rw [if_neg h2, if_neg h2, if_neg h2]
      by_cases h3 : v < k
      · rw [if_pos h3, if_pos (by omega)]
      · rw [if_neg h3, if_neg (by omega)]
theorem c_b15 {N : Nat} {fines : Bool} (hS : S ≤ 7) (hop : ∀ k, k < S → op k k = false) : ∀ m n k σ, k + m = S → BN S op st fi al xv σ → CL st fi al (esC op fines S k) σ → (∀ u, u < 8 → ar σ 51 u = zI (xx xv k u)) → ∃ σ', b_X1_build_15 (N + 200) (n + m + 1) (nI fines.toNat) (nI k) σ = some σ' ∧ OQ pB qJ σ σ' ∧ CL st fi al (esC op fines S S) σ' ∧ ∀ u, u < 8 → ar σ' 51 u = zI (xx xv S u)
  | 0, n, k, σ, hj, hB, hG, hX => by
    have e : k = S := by omega
    subst e
    refine ⟨σ, ?_, OQ.rf pB qJ σ, hG, hX⟩
    show b_X1_build_15b (N + 200) (b_X1_build_15 (N + 200) n) _ _ _ = _
    unfold b_X1_build_15b
    rw [hB.1]
    exact if_T (of_eq_true (ile_T (Nat.le_refl _) (by omega))) rfl
  | m + 1, n, k, σ, hj, hB, hG, hX => by
    have hkS : k < S := by omega
    have c0 : ¬ nI S ≤ nI k := of_eq_false (ile_F hkS (by omega))
    have bk : inb (nI k) 7 = true := inb_nI (by omega) (by decide)
    have bk8 : inb (nI k) 8 = true := inb_nI (by omega) (by decide)
    have b7 : inb (7 : Int32) 8 = true := by decide
    have t7 : (7 : Int32).toNatClampNeg = 7 := by rw [l_7]; exact nI_clamp (by decide)
    have jB : ∀ q, pB q = false → pJ q = false := fun q h => by unfold pB at h; unfold pJ; have := of_decide_eq_false h; exact decide_eq_false (by omega)
    have hlenK : (esC op fines S (k + 1)).length ≤ 70 := by have := esC_len (fines := fines) hS hop (k + 1) (by omega); omega
    have hlen0 := esC_len (fines := fines) hS hop k (by omega)
    obtain ⟨b1, b2, b3, b4, b5⟩ := hB.2 k hkS
    have o1 : OQ pB qJ σ (sar (sar σ 51 k (zI (xv k))) 51 7 (ar (sar σ 51 k (zI (xv k))) 51 7 - zI (xv k))) := ((OQ.rf pB qJ σ).sar _ _ (by decide)).sar _ _ (by decide)
    have x1 : ∀ u, u < 8 → ar (sar (sar σ 51 k (zI (xv k))) 51 7 (ar (sar σ 51 k (zI (xv k))) 51 7 - zI (xv k))) 51 u = zI (xx xv (k + 1) u) := fun u hu => by
      have e7 : ar (sar σ 51 k (zI (xv k))) 51 7 = zI (xx xv k 7) := by
        rw [ar_s1 (fun w => by omega)]
        exact hX 7 (by omega)
      rw [e7, zI_sub, ar_sar, ar_sar, xx_s xv (by omega)]
      by_cases q1 : u = 7
      · rw [if_pos ⟨rfl, q1⟩, if_neg (by omega), if_pos q1]
      · rw [if_neg (fun w => q1 w.2), if_neg q1]
        by_cases q2 : u = k
        · rw [if_pos ⟨rfl, q2⟩, if_pos q2]
        · rw [if_neg (fun w => q2 w.2), if_neg q2]
          exact hX u hu
    have h44 : ar (sar σ 51 k (zI (xv k))) 44 k = zI (xv k) := by rw [ar_sar_ne (by decide)]; exact b3
    generalize hσ1 : sar (sar σ 51 k (zI (xv k))) 51 7 (ar (sar σ 51 k (zI (xv k))) 51 7 - zI (xv k)) = σ1 at o1 x1
    have hB1 := hB.oq o1 (by decide)
    have hG1 : CL st fi al (esC op fines S k) σ1 := by
      subst hσ1
      refine ⟨hG.1, fun a ha => ?_⟩
      rw [ar_sar_ne (by decide), ar_sar_ne (by decide), ar_sar_ne (by decide), ar_sar_ne (by decide), ar_sar_ne (by decide), ar_sar_ne (by decide), ar_sar_ne (by decide), ar_sar_ne (by decide)]
      exact hG.2 a ha
    obtain ⟨n71, n72, n73, n74⟩ := n_7 st fi al 1000000 k
    obtain ⟨n81, n82, n83, n84⟩ := n_8 st fi al 1000000 k
    obtain ⟨n91, n92, n93, n94⟩ := n_9 st fi al 1000000 k
    obtain ⟨n01, n02, n03, n04⟩ := n_10 st fi al 1000000 k
    obtain ⟨σ2, e2, o2, g2⟩ := c_join (N := N + 200) (e := 11 * k + 7) (x1 := nI k) (x2 := 7) (x3 := ar σ1 43 k) (x4 := 0) (by omega) hG1 (by rw [n71]) (by rw [n72]; exact l_7) (by rw [n74, (hB1.2 k hkS).2.1]; exact nI_z _) (by rw [n73]; exact z_0)
    have hB2 := hB1.oq o2 (by decide)
    have hl2 : (esC op fines S k ++ [11 * k + 7]).length < 70 := by rw [List.length_append]; show _ + 1 < 70; omega
    obtain ⟨σ3, e3, o3, g3⟩ := c_join (N := N + 200) (e := 11 * k + 8) (x1 := 7) (x2 := nI k) (x3 := ar σ2 43 k) (x4 := 0) hl2 g2 (by rw [n81]; exact l_7) (by rw [n82]) (by rw [n84, (hB2.2 k hkS).2.1]; exact nI_z _) (by rw [n83]; exact z_0)
    have hB3 := hB2.oq o3 (by decide)
    have fin13 : ∀ σ4, OQ pJ qJ σ3 σ4 → BN S op st fi al xv σ4 → CL st fi al (esC op fines S k ++ ([11 * k + 7, 11 * k + 8] ++ fnl fines k)) σ4 → ∃ σ', b_X1_build_113 (N + 200) (b_X1_build_15 (N + 200) (n + m + 1)) (nI fines.toNat) (nI k) σ4 = some σ' ∧ OQ pB qJ σ σ' ∧ CL st fi al (esC op fines S S) σ' ∧ ∀ u, u < 8 → ar σ' 51 u = zI (xx xv S u) := fun σ4 o4 hB4 g4 => by
      have heq : (esC op fines S k ++ ([11 * k + 7, 11 * k + 8] ++ fnl fines k)) ++ ldl (op k) (11 * k) S = esC op fines S (k + 1) := by
        show _ = esC op fines S k ++ (([11 * k + 7, 11 * k + 8] ++ fnl fines k) ++ ldl (op k) (11 * k) S)
        rw [List.append_assoc]
      obtain ⟨σ5, e5, o5, g5⟩ := c_b115 (N := N + 200) (L0 := esC op fines S k ++ ([11 * k + 7, 11 * k + 8] ++ fnl fines k)) hS hkS (by rw [heq]; exact hlenK) (b_X1_build_15 (N + 200) (n + m + 1)) (nI fines.toNat) S (N + 199 - S) 0 σ4 (by omega) hB4 (by
        show CL st fi al (_ ++ []) σ4
        rw [List.append_nil]
        exact g4)
      rw [show N + 199 - S + S + 1 = N + 200 by omega] at e5
      rw [heq] at g5
      have oo := ((o2.tr o3).tr (o4.tr o5)).mo jB
      obtain ⟨σ6, e6, o6, g6, x6⟩ := c_b15 (N := N) hS hop m n (k + 1) σ5 (by omega) (hB1.oq oo (by decide)) g5 (fun u hu => by
        rw [((o2.tr o3).tr (o4.tr o5)).2 51 (by decide)]
        exact x1 u hu)
      exact ⟨σ6, e5.trans e6, (o1.tr oo).tr o6, g6, x6⟩
    have goal : ∃ σ', (if nI fines.toNat = 0 then b_X1_build_113 (N + 200) (b_X1_build_15 (N + 200) (n + m + 1)) (nI fines.toNat) (nI k) σ3 else gd (inb (nI k) 7) (bd (f_X1_join (N + 200) (nI k) (7 : Int32) (1000000 : Int32) (ar σ3 45 k) σ3) fun σ95 => gd (inb (nI k) 7) (bd (f_X1_join (N + 200) (7 : Int32) (nI k) (1000000 : Int32) (ar σ95 45 k) σ95) fun σ110 => b_X1_build_113 (N + 200) (b_X1_build_15 (N + 200) (n + m + 1)) (nI fines.toNat) (nI k) σ110))) = some σ' ∧ OQ pB qJ σ σ' ∧ CL st fi al (esC op fines S S) σ' ∧ ∀ u, u < 8 → ar σ' 51 u = zI (xx xv S u) := by
      cases fines with
      | false =>
        obtain ⟨σ', f1, f2⟩ := fin13 σ3 (OQ.rf pJ qJ σ3) hB3 (by
          rw [List.append_assoc] at g3
          exact g3)
        exact ⟨σ', if_T (by decide) f1, f2⟩
      | true =>
        have hl3 : ((esC op true S k ++ [11 * k + 7]) ++ [11 * k + 8]).length < 70 := by rw [List.length_append, List.length_append]; show _ + 1 + 1 < 70; omega
        have hl4 : (((esC op true S k ++ [11 * k + 7]) ++ [11 * k + 8]) ++ [11 * k + 9]).length < 70 := by rw [List.length_append, List.length_append, List.length_append]; show _ + 1 + 1 + 1 < 70; omega
        obtain ⟨σ4, e4, o4, g4⟩ := c_join (N := N + 200) (e := 11 * k + 9) (x1 := nI k) (x2 := 7) (x3 := 1000000) (x4 := ar σ3 45 k) hl3 g3 (by rw [n91]) (by rw [n92]; exact l_7) (by rw [n94]; exact z_M) (by rw [n93, (hB3.2 k hkS).2.2.2.1]; exact nI_z _)
        have hB4 := hB3.oq o4 (by decide)
        obtain ⟨σ5, e5, o5, g5⟩ := c_join (N := N + 200) (e := 11 * k + 10) (x1 := 7) (x2 := nI k) (x3 := 1000000) (x4 := ar σ4 45 k) hl4 g4 (by rw [n01]; exact l_7) (by rw [n02]) (by rw [n04]; exact z_M) (by rw [n03, (hB4.2 k hkS).2.2.2.1]; exact nI_z _)
        obtain ⟨σ', f1, f2⟩ := fin13 σ5 (o4.tr o5) (hB4.oq o5 (by decide)) (by
          rw [List.append_assoc, List.append_assoc, List.append_assoc] at g5
          exact g5)
        exact ⟨σ', if_F (by decide) (gd_k bk (bd_k e4 (gd_k bk (bd_k e5 f1)))), f2⟩
    obtain ⟨σ', f1, f2⟩ := goal
    refine ⟨σ', ?_, f2⟩
    show b_X1_build_15b (N + 200) (b_X1_build_15 (N + 200) (n + m + 1)) _ _ _ = _
    unfold b_X1_build_15b
    rw [hB.1, nI_clamp (show k < 2 ^ 31 by omega), b3, t7]
    refine if_F c0 <| gd_k bk <| gd_k bk8 <| nm_k <| gd_k b7 <| gd_k bk <| gd_k b7 <| nm_k ?_
    rw [h44, hσ1]
    exact gd_k bk (bd_k e2 (gd_k bk (bd_k e3 f1)))
theorem c_fill {N : Nat} : ∀ m n j σ, j + m = 8 → (∀ u, u < j → ar σ 51 u = zI 0) → ∃ σ', b_J7_fill_53178_5 N (n + m + 1) (0 : Int32) (nI j) (8 : Int32) σ = some σ' ∧ OW (fun k => decide (k = 51)) σ σ' ∧ ∀ u, u < 8 → ar σ' 51 u = zI 0
  | 0, n, j, σ, hj, hX => by
    have e : j = 8 := by omega
    subst e
    refine ⟨σ, ?_, OW.rf _ σ, hX⟩
    show b_J7_fill_53178_5b N (b_J7_fill_53178_5 N n) _ _ _ _ = _
    unfold b_J7_fill_53178_5b
    exact if_T (of_eq_true (ile_T (Nat.le_refl 8) (by decide))) rfl
  | m + 1, n, j, σ, hj, hX => by
    have o1 : OW (fun k => decide (k = 51)) σ (sar σ 51 j 0) := (OW.rf _ σ).sar _ _ (by decide)
    obtain ⟨σ2, e2, o2, i2⟩ := c_fill (N := N) m n (j + 1) (sar σ 51 j 0) (by omega) (fun u hu => by
      rw [ar_sar]
      by_cases q : u = j
      · rw [if_pos ⟨rfl, q⟩]
        exact z_0
      · rw [if_neg (fun w => q w.2)]
        exact hX u (by omega))
    refine ⟨σ2, ?_, o1.tr o2, i2⟩
    show b_J7_fill_53178_5b N (b_J7_fill_53178_5 N (n + m + 1)) _ _ _ _ = _
    unfold b_J7_fill_53178_5b
    rw [nI_clamp (show j < 2 ^ 31 by omega)]
    refine if_F (of_eq_false (ile_F (show j < 8 by omega) (by decide))) <| gd_k (inb_nI (by omega) (by decide)) <| nm_k <| nm_k ?_
    rw [nI_1]
    exact e2
theorem c_build {N : Nat} {fines : Bool} (hS : S ≤ 7) (hop : ∀ k, k < S → op k k = false) {σ : Sg} (hB : BN S op st fi al xv σ) : ∃ σ', f_X1_build (N + 200) (nI fines.toNat) σ = some σ' ∧ OQ pB qJ σ σ' ∧ CL st fi al (esC op fines S S) σ' ∧ ∀ u, u < 8 → ar σ' 51 u = zI (xx xv S u) := by
  have o1 : OQ pB qJ σ (srg σ 7 6 0) := (OQ.rf pB qJ σ).srg _ (by decide)
  obtain ⟨σ2, e2, o2, x2⟩ := c_fill (N := N + 200) 8 (N + 191) 0 (srg σ 7 6 0) rfl (fun u hu => absurd hu (Nat.not_lt_zero u))
  have o2' : OQ pB qJ (srg σ 7 6 0) σ2 := (o2.oq qJ).mo fun q h => by unfold pB at h; have := of_decide_eq_false h; exact decide_eq_false (by omega)
  have g2 : CL st fi al (esC op fines S 0) σ2 := ⟨by rw [o2.1]; exact rg_s2 ⟨rfl, rfl⟩, fun a ha => absurd ha (Nat.not_lt_zero a)⟩
  obtain ⟨σ3, e3, o3, g3, x3⟩ := c_b15 (N := N) (fines := fines) hS hop S (N + 199 - S) 0 σ2 (by omega) (hB.oq (o1.tr o2') (by decide)) g2 (fun u hu => by
    rw [x2 u hu]
    congr 1
    unfold xx
    rw [if_neg (Nat.not_lt_zero u)]
    split
    · rfl
    · rfl)
  rw [show N + 199 - S + S + 1 = N + 200 by omega] at e3
  exact ⟨σ3, nm_k (bd_k e2 e3), (o1.tr o2').tr o3, g3, x3⟩
end BU
