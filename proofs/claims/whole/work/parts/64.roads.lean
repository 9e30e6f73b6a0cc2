/-! the model's network is built -/
def pN (k : Nat) : Bool := decide (k = 65 ∨ k = 66 ∨ k = 67 ∨ k = 68 ∨ k = 69)
def pR (k : Nat) : Bool := decide (k = 65 ∨ k = 66 ∨ k = 67 ∨ k = 68 ∨ k = 69 ∨ k = 70)
def qN (k j : Nat) : Bool := decide (k = 60 ∧ j = 19)
def MG (n : Nat) (sr ds : Nat → Nat) (co cp fl : Nat → Int) (σ : Sg) : Prop := rg σ 60 19 = nI n ∧ ∀ q, q < n → ar σ 65 q = nI (sr q) ∧ ar σ 66 q = nI (ds q) ∧ ar σ 67 q = zI (co q) ∧ ar σ 68 q = zI (cp q) ∧ ar σ 69 q = zI (fl q)
/-- the network of a row of edges, nothing sent yet, stands in the model -/
def MLn (st fi al : Nat → Nat) (l : List Nat) (σ : Sg) : Prop := MG l.length (wS l) (wD l) (wO st fi l) (wC al 1000000000 l) (fun _ => 0) σ
theorem road_ar (σ : Sg) (a : Nat) (x1 x2 x3 x4 x5 v : Int32) (i : Nat) : ar (srg (sar (sar (sar (sar (sar σ 65 a x1) 66 a x2) 67 a x3) 68 a x4) 69 a x5) 60 19 v) 65 i = (if i = a then x1 else ar σ 65 i) ∧ ar (srg (sar (sar (sar (sar (sar σ 65 a x1) 66 a x2) 67 a x3) 68 a x4) 69 a x5) 60 19 v) 66 i = (if i = a then x2 else ar σ 66 i) ∧ ar (srg (sar (sar (sar (sar (sar σ 65 a x1) 66 a x2) 67 a x3) 68 a x4) 69 a x5) 60 19 v) 67 i = (if i = a then x3 else ar σ 67 i) ∧ ar (srg (sar (sar (sar (sar (sar σ 65 a x1) 66 a x2) 67 a x3) 68 a x4) 69 a x5) 60 19 v) 68 i = (if i = a then x4 else ar σ 68 i) ∧ ar (srg (sar (sar (sar (sar (sar σ 65 a x1) 66 a x2) 67 a x3) 68 a x4) 69 a x5) 60 19 v) 69 i = (if i = a then x5 else ar σ 69 i) := by
  rw [ar_srg]
  refine ⟨?_, ?_, ?_, ?_, ?_⟩
  · rw [ar_sar_ne (by decide), ar_sar_ne (by decide), ar_sar_ne (by decide), ar_sar_ne (by decide), ar_sar]
    simp only [true_and]
  · rw [ar_sar_ne (by decide), ar_sar_ne (by decide), ar_sar_ne (by decide), ar_sar, ar_sar_ne (by decide)]
    simp only [true_and]
  · rw [ar_sar_ne (by decide), ar_sar_ne (by decide), ar_sar, ar_sar_ne (by decide), ar_sar_ne (by decide)]
    simp only [true_and]
  · rw [ar_sar_ne (by decide), ar_sar, ar_sar_ne (by decide), ar_sar_ne (by decide), ar_sar_ne (by decide)]
    simp only [true_and]
  · rw [ar_sar, ar_sar_ne (by decide), ar_sar_ne (by decide), ar_sar_ne (by decide), ar_sar_ne (by decide)]
    simp only [true_and]
theorem m_road {N : Nat} {l : List Nat} {e : Nat} {st fi al : Nat → Nat} {σ : Sg} (hl : l.length < 70) (hG : MLn st fi al l σ) {x1 x2 x3 x4 : Int32} (h1 : x1 = nI (nSr e)) (h2 : x2 = nI (nDs e)) (h3 : x3 = zI (nCo st fi e)) (h4 : x4 = zI (nC al 1000000000 e)) : ∃ σ', f_X7_road N x1 x2 x3 x4 σ = some σ' ∧ OQ pN qN σ σ' ∧ MLn st fi al (l ++ [e]) σ' := by
  subst h1 h2 h3 h4
  obtain ⟨g, g1⟩ := hG
  have e1 : (rg σ 60 19).toNatClampNeg = l.length := by rw [g]; exact nI_clamp (by omega)
  have b : inb (rg σ 60 19) 70 = true := by rw [g]; exact inb_nI hl (by decide)
  have a1 := road_ar σ l.length (nI (nSr e)) (nI (nDs e)) (zI (nCo st fi e)) (zI (nC al 1000000000 e)) 0 (nI (l.length + 1))
  have o1 : OQ pN qN σ (srg (sar (sar (sar (sar (sar σ 65 l.length (nI (nSr e))) 66 l.length (nI (nDs e))) 67 l.length (zI (nCo st fi e))) 68 l.length (zI (nC al 1000000000 e))) 69 l.length 0) 60 19 (nI (l.length + 1))) := ((((((OQ.rf pN qN σ).sar _ _ (by decide)).sar _ _ (by decide)).sar _ _ (by decide)).sar _ _ (by decide)).sar _ _ (by decide)).srg _ (by decide)
  have r1 : rg (srg (sar (sar (sar (sar (sar σ 65 l.length (nI (nSr e))) 66 l.length (nI (nDs e))) 67 l.length (zI (nCo st fi e))) 68 l.length (zI (nC al 1000000000 e))) 69 l.length 0) 60 19 (nI (l.length + 1))) 60 19 = nI (l.length + 1) := rg_s2 ⟨rfl, rfl⟩
  have ev : f_X7_road N (nI (nSr e)) (nI (nDs e)) (zI (nCo st fi e)) (zI (nC al 1000000000 e)) σ = some (srg (sar (sar (sar (sar (sar σ 65 l.length (nI (nSr e))) 66 l.length (nI (nDs e))) 67 l.length (zI (nCo st fi e))) 68 l.length (zI (nC al 1000000000 e))) 69 l.length 0) 60 19 (nI (l.length + 1))) := by
    unfold f_X7_road
    refine gd_k b <| nm_k <| gd_k b <| nm_k <| gd_k b <| nm_k <| gd_k b <| nm_k <| gd_k b <| nm_k <| nm_k ?_
    show some (srg (sar (sar (sar (sar (sar σ 65 (rg σ 60 19).toNatClampNeg _) 66 (rg σ 60 19).toNatClampNeg _) 67 (rg σ 60 19).toNatClampNeg _) 68 (rg σ 60 19).toNatClampNeg _) 69 (rg σ 60 19).toNatClampNeg 0) 60 19 (rg σ 60 19 + 1)) = _
    rw [e1, g, nI_1]
  generalize (srg (sar (sar (sar (sar (sar σ 65 l.length (nI (nSr e))) 66 l.length (nI (nDs e))) 67 l.length (zI (nCo st fi e))) 68 l.length (zI (nC al 1000000000 e))) 69 l.length 0) 60 19 (nI (l.length + 1))) = σ1 at o1 a1 ev r1
  have hlen : (l ++ [e]).length = l.length + 1 := by simp
  refine ⟨σ1, ev, o1, ?_⟩
  unfold MLn
  rw [hlen]
  refine ⟨r1, fun q hq => ?_⟩
  obtain ⟨p1, p2, p3, p4, p5⟩ := a1 q
  rw [p1, p2, p3, p4, p5]
  by_cases c : q = l.length
  · obtain ⟨w1, w2, w3, w4⟩ := wx_end (st := st) (fi := fi) (al := al) (big := 1000000000) (l := l) (e := e)
    rw [if_pos c, if_pos c, if_pos c, if_pos c, if_pos c, c, w1, w2, w3, w4]
    exact ⟨rfl, rfl, rfl, rfl, z_0⟩
  · obtain ⟨w1, w2, w3, w4⟩ := wx_ap (st := st) (fi := fi) (al := al) (big := 1000000000) (l := l) (e := e) (show q < l.length by omega)
    rw [if_neg c, if_neg c, if_neg c, if_neg c, if_neg c, w1, w2, w3, w4]
    exact g1 q (by omega)
/-! what is asked of the model's network -/
def MN (S : Nat) (op : Nat → Nat → Bool) (st fi al : Nat → Nat) (xv : Nat → Int) (σ : Sg) : Prop := ar σ 61 0 = nI S ∧ ∀ i, i < S → ar σ 61 (24 + i) - ar σ 61 (31 + i) = zI (xv i) ∧ ar σ 73 i = nI (al i) ∧ ar σ 74 i = nI (fi i) ∧ ar σ 75 i = nI (st i) ∧ ∀ j, j < S → ar σ 76 (7 * i + j) = nI (op i j).toNat
theorem MN.oq {S : Nat} {op : Nat → Nat → Bool} {st fi al : Nat → Nat} {xv : Nat → Int} {P : Nat → Bool} {Q : Nat → Nat → Bool} {σ σ' : Sg} (h : MN S op st fi al xv σ) (g : OQ P Q σ σ') (hP : P 61 = false ∧ P 73 = false ∧ P 74 = false ∧ P 75 = false ∧ P 76 = false) : MN S op st fi al xv σ' := by
  obtain ⟨h0, h1⟩ := h
  obtain ⟨p1, p2, p3, p4, p5⟩ := hP
  unfold MN
  rw [g.2 61 p1, g.2 73 p2, g.2 74 p3, g.2 75 p4, g.2 76 p5]
  exact ⟨h0, h1⟩
theorem z_B : (1000000000 : Int32) = zI 1000000000 := (Eq.refl (zI 1000000000)).trans rfl
section MU
variable {S : Nat} {op : Nat → Nat → Bool} {st fi al : Nat → Nat} {xv : Nat → Int}
theorem m_unev {N i : Nat} {σ : Sg} (hS : S ≤ 7) (hM : MN S op st fi al xv σ) (hi : i < S) : f_X7_uneven N (nI i) σ = some (zI (xv i), σ) := by
  unfold f_X7_uneven
  rw [l_24, l_31, nI_add, nI_add, nI_clamp (by omega), nI_clamp (by omega)]
  refine gd_k (inb_nI (by omega) (by decide)) (gd_k (inb_nI (by omega) (by decide)) ?_)
  rw [(hM.2 i hi).1]
theorem m_b53 {N k : Nat} {fines : Bool} (hS : S ≤ 7) (hk : k < S) {L0 : List Nat} (hlen : (L0 ++ sgM op fines S k).length ≤ 70) (k15 : Int32 → Int32 → Sg → Option Sg) : ∀ m n j σ, j + m = S → MN S op st fi al xv σ → MLn st fi al (L0 ++ ldl (op k) (11 * k) j) σ → ∃ σ', b_X7_looksForRoads_53 N k15 (n + m + 1) (nI fines.toNat) (nI k) (nI j) σ = k15 (nI fines.toNat) (nI (k + 1)) σ' ∧ OQ pN qN σ σ' ∧ MLn st fi al (L0 ++ sgM op fines S k) σ'
  | 0, n, j, σ, hj, hB, hG => by
    have e : j = S := by omega
    subst e
    have hs : ar σ 61 (0 : Int32).toNatClampNeg = nI j := hB.1
    have c0 : nI j ≤ nI j := of_eq_true (ile_T (Nat.le_refl _) (by omega))
    have bk : inb (nI k) 7 = true := inb_nI (by omega) (by decide)
    have tk : (nI k).toNatClampNeg = k := nI_clamp (by omega)
    have hL : ∀ t, ((L0 ++ ldl (op k) (11 * k) j) ++ t).length ≤ (L0 ++ sgM op fines j k).length ↔ t.length ≤ ([11 * k + 7, 11 * k + 8] ++ fnl fines k).length := fun t => by
      unfold sgM
      rw [List.length_append, List.length_append, List.length_append, List.length_append]
      omega
    have e1 : ∀ σ', b_X7_looksForRoads_159 N k15 (nI fines.toNat) (nI k) σ' = k15 (nI fines.toNat) (nI (k + 1)) σ' := fun σ' => by
      unfold b_X7_looksForRoads_159
      refine nm_k ?_
      rw [nI_1]
    obtain ⟨n71, n72, n73, n74⟩ := n_7 st fi al 1000000000 k
    obtain ⟨n81, n82, n83, n84⟩ := n_8 st fi al 1000000000 k
    obtain ⟨n91, n92, n93, n94⟩ := n_9 st fi al 1000000000 k
    obtain ⟨n01, n02, n03, n04⟩ := n_10 st fi al 1000000000 k
    have hl0 : (L0 ++ ldl (op k) (11 * k) j).length + (2 + (fnl fines k).length) ≤ 70 := by
      unfold sgM at hlen
      rw [List.length_append, List.length_append, List.length_append] at hlen
      rw [List.length_append]
      have h2 : [11 * k + 7, 11 * k + 8].length = 2 := rfl
      omega
    generalize hL1 : L0 ++ ldl (op k) (11 * k) j = L1 at hG hl0
    have hfin : L1 ++ ([11 * k + 7, 11 * k + 8] ++ fnl fines k) = L0 ++ sgM op fines j k := by
      rw [← hL1, List.append_assoc]
      rfl
    obtain ⟨σ2, e2, o2, g2⟩ := m_road (N := N) (e := 11 * k + 7) (x1 := nI k) (x2 := 7) (x3 := 0) (x4 := ar σ 73 k) (by omega) hG (by rw [n71]) (by rw [n72]; exact l_7) (by rw [n73]; exact z_0) (by rw [n74, (hB.2 k hk).2.1]; exact nI_z _)
    have hB2 := hB.oq o2 (by decide)
    have hl2 : (L1 ++ [11 * k + 7]).length < 70 := by rw [List.length_append]; show _ + 1 < 70; omega
    obtain ⟨σ3, e3, o3, g3⟩ := m_road (N := N) (e := 11 * k + 8) (x1 := 7) (x2 := nI k) (x3 := 0) (x4 := ar σ2 73 k) hl2 g2 (by rw [n81]; exact l_7) (by rw [n82]) (by rw [n83]; exact z_0) (by rw [n84, (hB2.2 k hk).2.1]; exact nI_z _)
    have hB3 := hB2.oq o3 (by decide)
    show ∃ σ', b_X7_looksForRoads_53b N k15 (b_X7_looksForRoads_53 N k15 n) _ _ _ _ = _ ∧ _
    unfold b_X7_looksForRoads_53b
    rw [hs, tk]
    cases fines with
    | false =>
      refine ⟨σ3, gd_k rfl <| if_T c0 <| gd_k bk <| bd_k e2 <| gd_k bk <| bd_k e3 <| if_T (by decide) (e1 σ3), o2.tr o3, ?_⟩
      rw [← hfin]
      rw [List.append_assoc] at g3
      exact g3
    | true =>
      have hl9 : (fnl true k).length = 2 := rfl
      have hl3 : ((L1 ++ [11 * k + 7]) ++ [11 * k + 8]).length < 70 := by rw [List.length_append, List.length_append]; show _ + 1 + 1 < 70; omega
      have hl4 : (((L1 ++ [11 * k + 7]) ++ [11 * k + 8]) ++ [11 * k + 9]).length < 70 := by rw [List.length_append, List.length_append, List.length_append]; show _ + 1 + 1 + 1 < 70; omega
      obtain ⟨σ4, e4, o4, g4⟩ := m_road (N := N) (e := 11 * k + 9) (x1 := nI k) (x2 := 7) (x3 := ar σ3 74 k) (x4 := 1000000000) hl3 g3 (by rw [n91]) (by rw [n92]; exact l_7) (by rw [n93, (hB3.2 k hk).2.2.1]; exact nI_z _) (by rw [n94]; exact z_B)
      have hB4 := hB3.oq o4 (by decide)
      obtain ⟨σ5, e5, o5, g5⟩ := m_road (N := N) (e := 11 * k + 10) (x1 := 7) (x2 := nI k) (x3 := ar σ4 74 k) (x4 := 1000000000) hl4 g4 (by rw [n01]; exact l_7) (by rw [n02]) (by rw [n03, (hB4.2 k hk).2.2.1]; exact nI_z _) (by rw [n04]; exact z_B)
      refine ⟨σ5, gd_k rfl <| if_T c0 <| gd_k bk <| bd_k e2 <| gd_k bk <| bd_k e3 <| if_F (by decide) <| gd_k bk <| bd_k e4 <| gd_k bk <| bd_k e5 (e1 σ5), ((o2.tr o3).tr o4).tr o5, ?_⟩
      rw [← hfin]
      rw [List.append_assoc, List.append_assoc, List.append_assoc] at g5
      exact g5
  | m + 1, n, j, σ, hj, hB, hG => by
    have hjS : j < S := by omega
    have hs : ar σ 61 (0 : Int32).toNatClampNeg = nI S := hB.1
    obtain ⟨b1, b2, b3, b4, b5⟩ := hB.2 k hk
    have c0 : ¬ nI S ≤ nI j := of_eq_false (ile_F hjS (by omega))
    have bk : inb (nI k) 7 = true := inb_nI (by omega) (by decide)
    have bj : inb (nI (7 * k + j)) 49 = true := inb_nI (by omega) (by decide)
    have e1 : ∀ σ', b_X7_looksForRoads_91 N k15 (b_X7_looksForRoads_53 N k15 (n + m + 1)) (nI fines.toNat) (nI k) (nI j) σ' = b_X7_looksForRoads_53 N k15 (n + m + 1) (nI fines.toNat) (nI k) (nI (j + 1)) σ' := fun σ' => by
      unfold b_X7_looksForRoads_91
      refine nm_k ?_
      rw [nI_1]
    show ∃ σ', b_X7_looksForRoads_53b N k15 (b_X7_looksForRoads_53 N k15 (n + m + 1)) _ _ _ _ = _ ∧ _
    unfold b_X7_looksForRoads_53b
    rw [hs, l_7, pk_mul, nI_add, nI_clamp (show 7 * k + j < 2 ^ 31 by omega), nI_clamp (show k < 2 ^ 31 by omega), b5 j hjS, b4]
    cases ho : op k j with
    | false =>
      obtain ⟨σ2, e2, o2, i2⟩ := m_b53 hS hk hlen k15 m n (j + 1) σ (by omega) hB (by
        show MLn st fi al (L0 ++ (ldl (op k) (11 * k) j ++ (if op k j = true then [11 * k + j] else []))) σ
        rw [ho, if_neg (by decide), List.append_nil]
        exact hG)
      refine ⟨σ2, gd_k rfl <| if_F c0 <| gd_k bj <| if_T (by decide) ?_, o2, i2⟩
      rw [e1]
      exact e2
    | true =>
      have hlt : (L0 ++ ldl (op k) (11 * k) j).length < 70 := by
        have h1 := ctn_up (op k) S (show j + 1 ≤ S by omega)
        have h2 : ctn (op k) (j + 1) = ctn (op k) j + (op k j).toNat := rfl
        rw [ho] at h2
        unfold sgM at hlen
        rw [List.length_append, List.length_append, ldl_len] at hlen
        rw [List.length_append, ldl_len]
        have h3 : true.toNat = 1 := rfl
        omega
      obtain ⟨n1, n2, n3, n4⟩ := n_t st fi al 1000000000 (k := k) (show j < 7 by omega)
      obtain ⟨σ1, e2, o2, i2⟩ := m_road (N := N) (e := 11 * k + j) (x1 := nI k) (x2 := nI j) (x3 := nI (st k)) (x4 := 1000000000) hlt hG (by rw [n1]) (by rw [n2]) (by rw [n3]; exact nI_z _) (by rw [n4]; exact z_B)
      obtain ⟨σ2, e3, o3, i3⟩ := m_b53 hS hk hlen k15 m n (j + 1) σ1 (by omega) (hB.oq o2 (by decide)) (by
        show MLn st fi al (L0 ++ (ldl (op k) (11 * k) j ++ (if op k j = true then [11 * k + j] else []))) σ1
        rw [ho, if_pos rfl, ← List.append_assoc]
        exact i2)
      refine ⟨σ2, gd_k rfl <| if_F c0 <| gd_k bj <| if_F (by decide) <| gd_k bk <| bd_k e2 ?_, o2.tr o3, i3⟩
      rw [e1]
      exact e3
/-- what the model has of the excess: of the places that are -/
def MX (S : Nat) (ex : Nat → Int) (σ : Sg) : Prop := ∀ v, PL S v → ar σ 70 v = zI (ex v)
theorem m_b15 {N : Nat} {fines : Bool} (hS : S ≤ 7) (hop : ∀ k, k < S → op k k = false) : ∀ m n k σ, k + m = S → MN S op st fi al xv σ → MLn st fi al (esM op fines S k) σ → MX k (xx xv k) σ → ∃ σ', b_X7_looksForRoads_15 (N + 200) (n + m + 1) (nI fines.toNat) (nI k) σ = some σ' ∧ OQ pR qN σ σ' ∧ MLn st fi al (esM op fines S S) σ' ∧ MX S (xx xv S) σ'
  | 0, n, k, σ, hj, hB, hG, hX => by
    have e : k = S := by omega
    subst e
    have hs : ar σ 61 (0 : Int32).toNatClampNeg = nI k := hB.1
    refine ⟨σ, ?_, OQ.rf pR qN σ, hG, hX⟩
    show b_X7_looksForRoads_15b (N + 200) (b_X7_looksForRoads_15 (N + 200) n) _ _ _ = _
    unfold b_X7_looksForRoads_15b
    rw [hs]
    exact gd_k rfl (if_T (of_eq_true (ile_T (Nat.le_refl _) (by omega))) rfl)
  | m + 1, n, k, σ, hj, hB, hG, hX => by
    have hkS : k < S := by omega
    have hs : ar σ 61 (0 : Int32).toNatClampNeg = nI S := hB.1
    have c0 : ¬ nI S ≤ nI k := of_eq_false (ile_F hkS (by omega))
    have bk8 : inb (nI k) 8 = true := inb_nI (by omega) (by decide)
    have b7 : inb (7 : Int32) 8 = true := by decide
    have t7 : (7 : Int32).toNatClampNeg = 7 := by rw [l_7]; exact nI_clamp (by decide)
    have jB : ∀ q, pR q = false → pN q = false := fun q h => by unfold pR at h; unfold pN; have := of_decide_eq_false h; exact decide_eq_false (by omega)
    have hlenK : (esM op fines S k ++ sgM op fines S k).length ≤ 70 := by
      have h1 := (es_perm op fines S (k + 1)).length_eq
      have h2 := esC_len (fines := fines) hS hop (k + 1) (by omega)
      have h3 : (esM op fines S (k + 1)).length = (esM op fines S k ++ sgM op fines S k).length := rfl
      omega
    have u1 := m_unev (N := N + 200) hS hB hkS
    have o0 : OQ pR qN σ (sar σ 70 k (zI (xv k))) := (OQ.rf pR qN σ).sar _ _ (by decide)
    have u2 := m_unev (N := N + 200) hS (hB.oq o0 (by decide)) hkS
    have o1 : OQ pR qN σ (sar (sar σ 70 k (zI (xv k))) 70 7 (ar (sar σ 70 k (zI (xv k))) 70 7 - zI (xv k))) := o0.sar _ _ (by decide)
    have x1 : MX (k + 1) (xx xv (k + 1)) (sar (sar σ 70 k (zI (xv k))) 70 7 (ar (sar σ 70 k (zI (xv k))) 70 7 - zI (xv k))) := fun u hu => by
      have e7 : ar (sar σ 70 k (zI (xv k))) 70 7 = zI (xx xv k 7) := by
        rw [ar_s1 (fun w => by omega)]
        exact hX 7 (Or.inl rfl)
      rw [e7, zI_sub, ar_sar, ar_sar, xx_s xv (by omega)]
      by_cases q1 : u = 7
      · rw [if_pos ⟨rfl, q1⟩, if_neg (by omega), if_pos q1]
      · rw [if_neg (fun w => q1 w.2), if_neg q1]
        by_cases q2 : u = k
        · rw [if_pos ⟨rfl, q2⟩, if_pos q2]
        · rw [if_neg (fun w => q2 w.2), if_neg q2]
          exact hX u (Or.inr (by rcases hu with h | h <;> omega))
    have hG1 : MLn st fi al (esM op fines S k) (sar (sar σ 70 k (zI (xv k))) 70 7 (ar (sar σ 70 k (zI (xv k))) 70 7 - zI (xv k))) := by
      refine ⟨hG.1, fun a ha => ?_⟩
      rw [ar_sar_ne (by decide), ar_sar_ne (by decide), ar_sar_ne (by decide), ar_sar_ne (by decide), ar_sar_ne (by decide), ar_sar_ne (by decide), ar_sar_ne (by decide), ar_sar_ne (by decide), ar_sar_ne (by decide), ar_sar_ne (by decide)]
      exact hG.2 a ha
    generalize hσ1 : sar (sar σ 70 k (zI (xv k))) 70 7 (ar (sar σ 70 k (zI (xv k))) 70 7 - zI (xv k)) = σ1 at o1 x1 hG1
    have hB1 := hB.oq o1 (by decide)
    obtain ⟨σ5, e5, o5, g5⟩ := m_b53 (N := N + 200) hS hkS hlenK (b_X7_looksForRoads_15 (N + 200) (n + m + 1)) S (N + 199 - S) 0 σ1 (by omega) hB1 (by
      show MLn st fi al (_ ++ []) σ1
      rw [List.append_nil]
      exact hG1)
    rw [show N + 199 - S + S + 1 = N + 200 by omega] at e5
    obtain ⟨σ6, e6, o6, g6, x6⟩ := m_b15 (N := N) hS hop m n (k + 1) σ5 (by omega) (hB1.oq o5 (by decide)) g5 (fun u hu => by
      rw [o5.2 70 (by decide)]
      exact x1 u hu)
    refine ⟨σ6, ?_, (o1.tr (o5.mo jB)).tr o6, g6, x6⟩
    show b_X7_looksForRoads_15b (N + 200) (b_X7_looksForRoads_15 (N + 200) (n + m + 1)) _ _ _ = _
    unfold b_X7_looksForRoads_15b
    rw [hs, nI_clamp (show k < 2 ^ 31 by omega), t7]
    refine gd_k rfl <| if_F c0 <| bd2_k u1 <| gd_k bk8 <| nm_k <| gd_k b7 <| bd2_k u2 <| gd_k b7 <| nm_k ?_
    rw [hσ1]
    exact e5.trans e6
theorem m_build {N : Nat} {fines : Bool} (hS : S ≤ 7) (hop : ∀ k, k < S → op k k = false) {σ : Sg} (hB : MN S op st fi al xv σ) : ∃ σ', f_X7_looksForRoads (N + 200) (nI fines.toNat) σ = some σ' ∧ OQ pR qN σ σ' ∧ MLn st fi al (esM op fines S S) σ' ∧ MX S (xx xv S) σ' := by
  have o1 : OQ pR qN σ (sar (srg σ 60 19 0) 70 7 0) := ((OQ.rf pR qN σ).srg _ (by decide)).sar _ _ (by decide)
  have t7 : (7 : Int32).toNatClampNeg = 7 := by rw [l_7]; exact nI_clamp (by decide)
  have g2 : MLn st fi al (esM op fines S 0) (sar (srg σ 60 19 0) 70 7 0) := ⟨by rw [rg_sar]; exact rg_s2 ⟨rfl, rfl⟩, fun a ha => absurd ha (Nat.not_lt_zero a)⟩
  obtain ⟨σ3, e3, o3, g3, x3⟩ := m_b15 (N := N) (fines := fines) hS hop S (N + 199 - S) 0 (sar (srg σ 60 19 0) 70 7 0) (by omega) (hB.oq o1 (by decide)) g2 (fun u hu => by
    rcases hu with h | h
    · subst h
      rw [ar_s2 ⟨rfl, rfl⟩]
      exact z_0
    · exact absurd h (Nat.not_lt_zero u))
  rw [show N + 199 - S + S + 1 = N + 200 by omega] at e3
  refine ⟨σ3, ?_, o1.tr o3, g3, x3⟩
  unfold f_X7_looksForRoads
  rw [t7]
  exact nm_k (gd_k (by decide) (nm_k e3))
end MU
