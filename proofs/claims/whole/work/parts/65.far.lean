/-! the model's search -/
def pT (k : Nat) : Bool := decide (k = 71 ∨ k = 72)
def pm : Option Nat → Int
  | none => -1
  | some a => if a % 2 = 0 then ((a / 2 : Nat) : Int) else ((100 + a / 2 : Nat) : Int)
def MF (s : Bs) (σ : Sg) : Prop := ∀ v, v < 8 → ar σ 71 v = zI (s.1 v) ∧ ar σ 72 v = zI (pm (s.2 v))
theorem pm_0 (q : Nat) : zI (pm (some (2 * q))) = nI q := by
  have e1 : 2 * q % 2 = 0 := by omega
  have e2 : 2 * q / 2 = q := by omega
  show zI (if 2 * q % 2 = 0 then ((2 * q / 2 : Nat) : Int) else ((100 + 2 * q / 2 : Nat) : Int)) = _
  rw [if_pos e1, e2]
  exact (nI_z q).symm
theorem pm_1 (q : Nat) : zI (pm (some (2 * q + 1))) = nI (100 + q) := by
  have e1 : ¬ (2 * q + 1) % 2 = 0 := by omega
  have e2 : (2 * q + 1) / 2 = q := by omega
  show zI (if (2 * q + 1) % 2 = 0 then (((2 * q + 1) / 2 : Nat) : Int) else ((100 + (2 * q + 1) / 2 : Nat) : Int)) = _
  rw [if_neg e1, e2]
  exact (nI_z (100 + q)).symm
theorem MG.op {n : Nat} {sr ds : Nat → Nat} {co cp fl : Nat → Int} {σ σ' : Sg} {P : Nat → Bool} (h : MG n sr ds co cp fl σ) (g : OW P σ σ') (hP : P 65 = false ∧ P 66 = false ∧ P 67 = false ∧ P 68 = false ∧ P 69 = false) : MG n sr ds co cp fl σ' := by
  obtain ⟨p1, p2, p3, p4, p5⟩ := hP
  refine ⟨by rw [g.1]; exact h.1, fun a ha => ?_⟩
  rw [g.2 65 p1, g.2 66 p2, g.2 67 p3, g.2 68 p4, g.2 69 p5]
  exact h.2 a ha
theorem x_pl {N S v : Nat} {σ : Sg} (hS : S ≤ 7) (hv : v < 8) (h61 : ar σ 61 0 = nI S) : f_X7_isPlace N (nI v) σ = some (nI (decide (PL S v)).toNat, σ) := by
  unfold f_X7_isPlace b_X7_isPlace_16
  have hs : ar σ 61 (0 : Int32).toNatClampNeg = nI S := h61
  rw [hs, l_7]
  by_cases q : v = 7
  · have e : decide (PL S v) = true := decide_eq_true (Or.inl q)
    rw [e]
    exact if_T (by rw [q]) rfl
  · refine if_F (of_eq_false (ieq_F q (by omega) (by decide))) (gd_k rfl ?_)
    by_cases q2 : S ≤ v
    · have e : decide (PL S v) = false := decide_eq_false (fun w => by rcases w with w | w <;> omega)
      rw [e]
      exact if_T (of_eq_true (ile_T q2 (by omega))) rfl
    · have e : decide (PL S v) = true := decide_eq_true (Or.inr (by omega))
      rw [e]
      exact if_F (of_eq_false (ile_F (by omega) (by omega))) rfl
section MS
variable {n : Nat} {sr ds : Nat → Nat} {co cp fl : Nat → Int}
/-- what is kept of flows: within rooms -/
def FB (n : Nat) (cp fl : Nat → Int) : Prop := ∀ q, q < n → 0 ≤ fl q ∧ fl q ≤ cp q ∧ cp q ≤ 1000000000
theorem m_162 {N : Nat} (hn : n ≤ 70) (hN : HN n sr ds co cp) (hR : FB n cp fl) {k52 : Int32 → Sg → Option Sg} {k60 : Int32 → Int32 → Sg → Option Sg} {c : Bool} {q : Nat} (hq : q < n) {s : Bs} (hs : ∀ v, v < 8 → -7000 ≤ s.1 v ∧ s.1 v ≤ bfI) {σ : Sg} (hG : MG n sr ds co cp fl σ) (hS : MF s σ) : ∃ σ', b_X7_looksForFar_162 N k52 k60 (nI c.toNat) (nI q) (nI (sr q)) (nI (ds q)) σ = k60 (nI (c || bfg (tlA sr ds) (hdA sr ds) (wtA co) (rsA cp fl) (2 * q + 1) s).toNat) (nI (q + 1)) σ' ∧ OW pT σ σ' ∧ MF (bf1 (tlA sr ds) (hdA sr ds) (wtA co) (rsA cp fl) (2 * q + 1) s) σ' := by
  obtain ⟨g0, g1⟩ := hG
  obtain ⟨h65, h66, h67, h68, h69⟩ := g1 q hq
  obtain ⟨t1, t2, t3, t4, t5⟩ := hN q hq
  obtain ⟨r1, r2, r3⟩ := hR q hq
  obtain ⟨-, a1, a2, a3, a4⟩ := arc2 sr ds co cp fl q
  have u1 := hs _ t1
  have u2 := hs _ t2
  have s1 := hS _ t1
  have s2 := hS _ t2
  have e1 : ∀ c' σ', b_X7_looksForFar_238 N k52 k60 c' (nI q) σ' = k60 c' (nI (q + 1)) σ' := fun c' σ' => by
    unfold b_X7_looksForFar_238
    refine nm_k ?_
    rw [nI_1]
  have hz : zI (s.1 (ds q)) - zI (co q) = zI (s.1 (ds q) - co q) := zI_sub _ _
  have b1 : inb (nI q) 70 = true := inb_nI (by omega) (by decide)
  have b2 : inb (nI (sr q)) 8 = true := inb_nI t1 (by decide)
  have b3 : inb (nI (ds q)) 8 = true := inb_nI t2 (by decide)
  have hbg : bfg (tlA sr ds) (hdA sr ds) (wtA co) (rsA cp fl) (2 * q + 1) s = true ↔ 0 < fl q ∧ s.1 (ds q) < bfI ∧ s.1 (ds q) - co q < s.1 (sr q) := by
    refine bfg_iff.trans ?_
    unfold rsA
    rw [decide_eq_true_iff, a1, a2, a3, a4]
    rfl
  unfold b_X7_looksForFar_162
  rw [nI_clamp (show q < 2 ^ 31 by omega), nI_clamp (show sr q < 2 ^ 31 by omega), nI_clamp (show ds q < 2 ^ 31 by omega), h69, h67, s1.1, s2.1]
  unfold bfI at u1 u2
  by_cases q1 : 0 < fl q
  · have c1 : ¬ zI (fl q) ≤ 0 := by rw [z_0]; exact zle_F q1 (by omega) (by omega)
    by_cases q2 : s.1 (ds q) < bfI
    · have c2 : ¬ (1000000000 : Int32) ≤ zI (s.1 (ds q)) := by rw [z_I]; exact zle_F q2 (by omega) (by decide)
      by_cases q3 : s.1 (ds q) - co q < s.1 (sr q)
      · have c3 : ¬ zI (s.1 (sr q)) ≤ zI (s.1 (ds q)) - zI (co q) := by rw [hz]; exact zle_F q3 (by omega) (by omega)
        have hb := hbg.mpr ⟨q1, q2, q3⟩
        refine ⟨sar (sar σ 71 (sr q) (zI (s.1 (ds q)) - zI (co q))) 72 (sr q) ((100 : Int32) + nI q), ?_, ((OW.rf pT σ).sar _ _ (by decide)).sar _ _ (by decide), fun v hv => ?_⟩
        · refine gd_k b1 <| if_F c1 <| gd_k b3 <| if_F c2 <| gd_k b3 <| gd_k b1 <| gd_k b2 <| if_F c3 <| gd_k b3 <| gd_k b1 <| gd_k b2 <| nm_k <| gd_k b2 <| nm_k ?_
          rw [e1, hb, Bool.or_true]
          rfl
        · unfold bf1
          rw [hz, if_pos hb, ar_sar_ne (by decide), ar_sar, ar_sar, ar_sar_ne (by decide), a1, a2, a3, l_100, nI_add]
          (try dsimp only)
          by_cases w : v = sr q
          · rw [if_pos w, if_pos w, if_pos ⟨rfl, w⟩, if_pos ⟨rfl, w⟩, pm_1]
            exact ⟨rfl, rfl⟩
          · rw [if_neg w, if_neg w, if_neg (fun z => w z.2), if_neg (fun z => w z.2)]
            exact hS v hv
      · have c3 : zI (s.1 (sr q)) ≤ zI (s.1 (ds q)) - zI (co q) := by rw [hz]; exact zle_T (by omega) (by omega) (by omega)
        have hb : bfg (tlA sr ds) (hdA sr ds) (wtA co) (rsA cp fl) (2 * q + 1) s = false := bF (fun w => q3 (hbg.mp w).2.2)
        refine ⟨σ, ?_, OW.rf pT σ, ?_⟩
        · refine gd_k b1 <| if_F c1 <| gd_k b3 <| if_F c2 <| gd_k b3 <| gd_k b1 <| gd_k b2 <| if_T c3 ?_
          rw [e1, hb, Bool.or_false]
        · unfold bf1
          rw [if_neg (by rw [hb]; decide)]
          exact hS
    · have c2 : (1000000000 : Int32) ≤ zI (s.1 (ds q)) := by rw [z_I]; exact zle_T (by omega) (by decide) (by omega)
      have hb : bfg (tlA sr ds) (hdA sr ds) (wtA co) (rsA cp fl) (2 * q + 1) s = false := bF (fun w => q2 (hbg.mp w).2.1)
      refine ⟨σ, ?_, OW.rf pT σ, ?_⟩
      · refine gd_k b1 <| if_F c1 <| gd_k b3 <| if_T c2 ?_
        rw [e1, hb, Bool.or_false]
      · unfold bf1
        rw [if_neg (by rw [hb]; decide)]
        exact hS
  · have c1 : zI (fl q) ≤ 0 := by rw [z_0]; exact zle_T (by omega) (by omega) (by decide)
    have hb : bfg (tlA sr ds) (hdA sr ds) (wtA co) (rsA cp fl) (2 * q + 1) s = false := bF (fun w => q1 (hbg.mp w).1)
    refine ⟨σ, ?_, OW.rf pT σ, ?_⟩
    · refine gd_k b1 <| if_T c1 ?_
      rw [e1, hb, Bool.or_false]
    · unfold bf1
      rw [if_neg (by rw [hb]; decide)]
      exact hS
theorem m_60b {N : Nat} (hn : n ≤ 70) (hN : HN n sr ds co cp) (hR : FB n cp fl) {k52 : Int32 → Sg → Option Sg} {k60 : Int32 → Int32 → Sg → Option Sg} {c : Bool} {q : Nat} (hq : q < n) {s : Bs} (hs : ∀ v, v < 8 → -7000 ≤ s.1 v ∧ s.1 v ≤ bfI) {σ : Sg} (hG : MG n sr ds co cp fl σ) (hS : MF s σ) : ∃ σ', b_X7_looksForFar_60b N k52 k60 (nI c.toNat) (nI q) σ = b_X7_looksForFar_162 N k52 k60 (nI (c || bfg (tlA sr ds) (hdA sr ds) (wtA co) (rsA cp fl) (2 * q) s).toNat) (nI q) (nI (sr q)) (nI (ds q)) σ' ∧ OW pT σ σ' ∧ MF (bf1 (tlA sr ds) (hdA sr ds) (wtA co) (rsA cp fl) (2 * q) s) σ' := by
  obtain ⟨g0, g1⟩ := hG
  obtain ⟨h65, h66, h67, h68, h69⟩ := g1 q hq
  obtain ⟨t1, t2, t3, t4, t5⟩ := hN q hq
  obtain ⟨r1, r2, r3⟩ := hR q hq
  obtain ⟨⟨a1, a2, a3, a4⟩, -⟩ := arc2 sr ds co cp fl q
  have u1 := hs _ t1
  have u2 := hs _ t2
  have s1 := hS _ t1
  have s2 := hS _ t2
  have hz : zI (s.1 (sr q)) + zI (co q) = zI (s.1 (sr q) + co q) := zI_add _ _
  have b1 : inb (nI q) 70 = true := inb_nI (by omega) (by decide)
  have b2 : inb (nI (sr q)) 8 = true := inb_nI t1 (by decide)
  have b3 : inb (nI (ds q)) 8 = true := inb_nI t2 (by decide)
  have c0 : ¬ nI n ≤ nI q := of_eq_false (ile_F hq (by omega))
  have hbg : bfg (tlA sr ds) (hdA sr ds) (wtA co) (rsA cp fl) (2 * q) s = true ↔ 0 < cp q - fl q ∧ s.1 (sr q) < bfI ∧ s.1 (sr q) + co q < s.1 (ds q) := by
    refine bfg_iff.trans ?_
    unfold rsA
    rw [decide_eq_true_iff, a1, a2, a3, a4]
  unfold b_X7_looksForFar_60b
  rw [g0, nI_clamp (show q < 2 ^ 31 by omega), h65, h66, h67, h68, h69]
  unfold bfI at u1 u2
  by_cases q1 : 0 < cp q - fl q
  · have c1 : ¬ zI (cp q) ≤ zI (fl q) := zle_F (by omega) (by omega) (by omega)
    by_cases q2 : s.1 (sr q) < bfI
    · have c2 : ¬ (1000000000 : Int32) ≤ zI (s.1 (sr q)) := by rw [z_I]; exact zle_F q2 (by omega) (by decide)
      by_cases q3 : s.1 (sr q) + co q < s.1 (ds q)
      · have c3 : ¬ zI (s.1 (ds q)) ≤ zI (s.1 (sr q)) + zI (co q) := by rw [hz]; exact zle_F q3 (by omega) (by omega)
        have hb := hbg.mpr ⟨q1, q2, q3⟩
        refine ⟨sar (sar σ 71 (ds q) (zI (s.1 (sr q)) + zI (co q))) 72 (ds q) (nI q), ?_, ((OW.rf pT σ).sar _ _ (by decide)).sar _ _ (by decide), fun v hv => ?_⟩
        · refine if_F c0 <| gd_k b1 <| nm_k <| gd_k b1 <| nm_k <| gd_k b1 <| gd_k b1 <| if_F c1 <| gd_k b2 ?_
          rw [nI_clamp (show sr q < 2 ^ 31 by omega), nI_clamp (show ds q < 2 ^ 31 by omega), s1.1, s2.1]
          refine if_F c2 <| gd_k b2 <| gd_k b1 <| gd_k b3 <| if_F c3 <| gd_k b2 <| gd_k b1 <| gd_k b3 <| nm_k <| gd_k b3 <| nm_k ?_
          rw [hb, Bool.or_true]
          rfl
        · unfold bf1
          rw [hz, if_pos hb, ar_sar_ne (by decide), ar_sar, ar_sar, ar_sar_ne (by decide), a1, a2, a3]
          (try dsimp only)
          by_cases w : v = ds q
          · rw [if_pos w, if_pos w, if_pos ⟨rfl, w⟩, if_pos ⟨rfl, w⟩, pm_0]
            exact ⟨rfl, rfl⟩
          · rw [if_neg w, if_neg w, if_neg (fun z => w z.2), if_neg (fun z => w z.2)]
            exact hS v hv
      · have c3 : zI (s.1 (ds q)) ≤ zI (s.1 (sr q)) + zI (co q) := by rw [hz]; exact zle_T (by omega) (by omega) (by omega)
        have hb : bfg (tlA sr ds) (hdA sr ds) (wtA co) (rsA cp fl) (2 * q) s = false := bF (fun w => q3 (hbg.mp w).2.2)
        refine ⟨σ, ?_, OW.rf pT σ, ?_⟩
        · refine if_F c0 <| gd_k b1 <| nm_k <| gd_k b1 <| nm_k <| gd_k b1 <| gd_k b1 <| if_F c1 <| gd_k b2 ?_
          rw [nI_clamp (show sr q < 2 ^ 31 by omega), nI_clamp (show ds q < 2 ^ 31 by omega), s1.1, s2.1]
          refine if_F c2 <| gd_k b2 <| gd_k b1 <| gd_k b3 <| if_T c3 ?_
          rw [hb, Bool.or_false]
        · unfold bf1
          rw [if_neg (by rw [hb]; decide)]
          exact hS
    · have c2 : (1000000000 : Int32) ≤ zI (s.1 (sr q)) := by rw [z_I]; exact zle_T (by omega) (by decide) (by omega)
      have hb : bfg (tlA sr ds) (hdA sr ds) (wtA co) (rsA cp fl) (2 * q) s = false := bF (fun w => q2 (hbg.mp w).2.1)
      refine ⟨σ, ?_, OW.rf pT σ, ?_⟩
      · refine if_F c0 <| gd_k b1 <| nm_k <| gd_k b1 <| nm_k <| gd_k b1 <| gd_k b1 <| if_F c1 <| gd_k b2 ?_
        rw [nI_clamp (show sr q < 2 ^ 31 by omega), s1.1]
        refine if_T c2 ?_
        rw [hb, Bool.or_false]
      · unfold bf1
        rw [if_neg (by rw [hb]; decide)]
        exact hS
  · have c1 : zI (cp q) ≤ zI (fl q) := zle_T (by omega) (by omega) (by omega)
    have hb : bfg (tlA sr ds) (hdA sr ds) (wtA co) (rsA cp fl) (2 * q) s = false := bF (fun w => q1 (hbg.mp w).1)
    refine ⟨σ, ?_, OW.rf pT σ, ?_⟩
    · refine if_F c0 <| gd_k b1 <| nm_k <| gd_k b1 <| nm_k <| gd_k b1 <| gd_k b1 <| if_T c1 ?_
      rw [hb, Bool.or_false]
    · unfold bf1
      rw [if_neg (by rw [hb]; decide)]
      exact hS
theorem m60 {N : Nat} (hn : n ≤ 70) (hN : HN n sr ds co cp) (hR : FB n cp fl) {J : Bs → Prop} (hJ1 : ∀ s a, a < 2 * n → J s → J (bf1 (tlA sr ds) (hdA sr ds) (wtA co) (rsA cp fl) a s)) (hJ2 : ∀ s, J s → ∀ v, v < 8 → -7000 ≤ s.1 v ∧ s.1 v ≤ bfI) (k52 : Int32 → Sg → Option Sg) : ∀ m k q c s σ, q + m = n → J s → MG n sr ds co cp fl σ → MF s σ → ∃ σ', b_X7_looksForFar_60 N k52 (k + m + 1) (nI (Bool.toNat c)) (nI q) σ = k52 (nI (c || bfc (tlA sr ds) (hdA sr ds) (wtA co) (rsA cp fl) (List.range' (2 * q) (2 * m)) s).toNat) σ' ∧ OW pT σ σ' ∧ MF (bfr (tlA sr ds) (hdA sr ds) (wtA co) (rsA cp fl) (List.range' (2 * q) (2 * m)) s) σ' ∧ J (bfr (tlA sr ds) (hdA sr ds) (wtA co) (rsA cp fl) (List.range' (2 * q) (2 * m)) s)
  | 0, k, q, c, s, σ, h, hj, hG, hS => by
    refine ⟨σ, ?_, OW.rf pT σ, hS, hj⟩
    show b_X7_looksForFar_60b N k52 (b_X7_looksForFar_60 N k52 k) _ _ _ = _
    unfold b_X7_looksForFar_60b
    rw [hG.1]
    refine if_T (of_eq_true (ile_T (by omega) (by omega))) ?_
    show _ = k52 (nI (c || false).toNat) _
    rw [Bool.or_false]
  | m + 1, k, q, c, s, σ, h, hj, hG, hS => by
    have hT : pT 65 = false ∧ pT 66 = false ∧ pT 67 = false ∧ pT 68 = false ∧ pT 69 = false := by decide
    obtain ⟨σ1, e1, o1, i1⟩ := m_60b (N := N) (k52 := k52) (k60 := b_X7_looksForFar_60 N k52 (k + m + 1)) (c := c) hn hN hR (show q < n by omega) (hJ2 s hj) hG hS
    have j1 := hJ1 s (2 * q) (by omega) hj
    obtain ⟨σ2, e2, o2, i2⟩ := m_162 (N := N) (k52 := k52) (k60 := b_X7_looksForFar_60 N k52 (k + m + 1)) (c := c || bfg (tlA sr ds) (hdA sr ds) (wtA co) (rsA cp fl) (2 * q) s) hn hN hR (show q < n by omega) (hJ2 _ j1) (hG.op o1 hT) i1
    have j2 := hJ1 _ (2 * q + 1) (by omega) j1
    obtain ⟨σ3, e3, o3, i3, j3⟩ := m60 hn hN hR hJ1 hJ2 k52 m k (q + 1) _ _ σ2 (by omega) j2 ((hG.op o1 hT).op o2 hT) i2
    have hr : List.range' (2 * q) (2 * (m + 1)) = 2 * q :: (2 * q + 1) :: List.range' (2 * (q + 1)) (2 * m) := by
      rw [show 2 * (m + 1) = (2 * m + 1) + 1 by omega, List.range'_succ, List.range'_succ, show 2 * q + 1 + 1 = 2 * (q + 1) by omega]
    rw [hr]
    refine ⟨σ3, ?_, (o1.tr o2).tr o3, i3, j3⟩
    show b_X7_looksForFar_60b N k52 (b_X7_looksForFar_60 N k52 (k + m + 1)) _ _ _ = k52 (nI (c || (bfg (tlA sr ds) (hdA sr ds) (wtA co) (rsA cp fl) (2 * q) s || (bfg (tlA sr ds) (hdA sr ds) (wtA co) (rsA cp fl) (2 * q + 1) _ || bfc (tlA sr ds) (hdA sr ds) (wtA co) (rsA cp fl) (List.range' (2 * (q + 1)) (2 * m)) _))).toNat) _
    rw [e1, e2, e3, Bool.or_assoc, Bool.or_assoc]
theorem m52 {N : Nat} (hn : n ≤ 70) (hN : HN n sr ds co cp) (hR : FB n cp fl) {p ex : Nat → Int} (hP : PO n sr ds co cp p fl) : ∀ m k r c σ, r + m = 8 → (c = true → r ≤ 7) → MG n sr ds co cp fl σ → MF (sNh n sr ds co cp fl r (sB0 ex)) σ → sJh n sr ds co cp p ex fl (sNh n sr ds co cp fl r (sB0 ex)) → (c = false → sCh n sr ds co cp fl (sNh n sr ds co cp fl r (sB0 ex)) = false) → ∃ σ' R, b_X7_looksForFar_52 (N + 200) (k + m + 1) (nI (Bool.toNat c)) σ = some σ' ∧ OW pT σ σ' ∧ MF (sNh n sr ds co cp fl R (sB0 ex)) σ' ∧ sCh n sr ds co cp fl (sNh n sr ds co cp fl R (sB0 ex)) = false := by
  have stop : ∀ k r σ, MF (sNh n sr ds co cp fl r (sB0 ex)) σ → sCh n sr ds co cp fl (sNh n sr ds co cp fl r (sB0 ex)) = false → ∃ σ' R, b_X7_looksForFar_52 (N + 200) (k + 1) (nI (Bool.toNat false)) σ = some σ' ∧ OW pT σ σ' ∧ MF (sNh n sr ds co cp fl R (sB0 ex)) σ' ∧ sCh n sr ds co cp fl (sNh n sr ds co cp fl R (sB0 ex)) = false := fun k r σ hS hc => by
    refine ⟨σ, r, ?_, OW.rf pT σ, hS, hc⟩
    show b_X7_looksForFar_52b (N + 200) (b_X7_looksForFar_52 (N + 200) k) _ _ = _
    unfold b_X7_looksForFar_52b
    exact if_T n00 rfl
  intro m
  induction m with
  | zero =>
    intro k r c σ h hc7 hG hS hJ hc
    cases c with
    | true => exact absurd (hc7 rfl) (by omega)
    | false => exact stop k r σ hS (hc rfl)
  | succ m ih =>
    intro k r c σ h hc7 hG hS hJ hc
    cases c with
    | false => exact stop (k + (m + 1)) r σ hS (hc rfl)
    | true =>
      obtain ⟨σ1, e1, o1, i1, j1⟩ := m60 (N := N + 200) hn hN hR (s_J1 hN hP) (s_J2 hN) (b_X7_looksForFar_52 (N + 200) (k + m + 1)) n (N + 199 - n) 0 false _ σ (by omega) hJ hG hS
      rw [show N + 199 - n + n + 1 = N + 200 by omega, Bool.false_or] at e1
      rw [show 2 * 0 = 0 by rfl, ← List.range_eq_range'] at e1 i1 j1
      obtain ⟨σ2, R, e2, o2, i2, c2⟩ := ih k (r + 1) (sCh n sr ds co cp fl (sNh n sr ds co cp fl r (sB0 ex))) σ1 (by omega) (fun w => by
        by_cases q : r = 7
        · subst q
          rw [s_fix hN hP] at w
          cases w
        · have := hc7 rfl
          omega) (hG.op o1 (by decide)) i1 j1 (fun w => s_st w)
      refine ⟨σ2, R, ?_, o1.tr o2, i2, c2⟩
      show b_X7_looksForFar_52b (N + 200) (b_X7_looksForFar_52 (N + 200) (k + m + 1)) _ _ = _
      unfold b_X7_looksForFar_52b
      exact if_F n10 (e1.trans e2)
theorem m2 {N S : Nat} {ex : Nat → Int} (hS7 : S ≤ 7) (hx : ∀ v, v < 8 → -2000000000 ≤ ex v ∧ ex v ≤ 2000000000) (hout : ∀ v, v < 8 → ¬ PL S v → ex v = 0) : ∀ m k v σ, v + m = 8 → ar σ 61 0 = nI S → MX S ex σ → (∀ u, u < v → ar σ 71 u = zI ((sB0 ex).1 u) ∧ ar σ 72 u = zI (-1)) → ∃ σ', b_X7_looksForFar_2 N (k + m + 1) (nI v) σ = b_X7_looksForFar_52 N N (1 : Int32) σ' ∧ OW pT σ σ' ∧ MF (sB0 ex) σ'
  | 0, k, v, σ, h, h61, hX, hS => by
    have e : v = 8 := by omega
    subst e
    refine ⟨σ, ?_, OW.rf pT σ, hS⟩
    show b_X7_looksForFar_2b N (b_X7_looksForFar_2 N k) _ _ = _
    unfold b_X7_looksForFar_2b
    exact if_T (of_eq_true (ile_T (Nat.le_refl 8) (by decide))) rfl
  | m + 1, k, v, σ, h, h61, hX, hS => by
    have hv : v < 8 := by omega
    have c0 : ¬ (8 : Int32) ≤ nI v := of_eq_false (ile_F hv (by decide))
    have b1 : inb (nI v) 8 = true := inb_nI hv (by decide)
    have hxv := hx v hv
    have o1 : OW pT σ (sar (sar σ 71 v (zI ((sB0 ex).1 v))) 72 v (-1 : Int32)) := ((OW.rf pT σ).sar _ _ (by decide)).sar _ _ (by decide)
    obtain ⟨σ2, e2, o2, i2⟩ := m2 (N := N) hS7 hx hout m k (v + 1) (sar (sar σ 71 v (zI ((sB0 ex).1 v))) 72 v (-1 : Int32)) (by omega) (by rw [o1.2 61 (by decide)]; exact h61) (fun u hu => by rw [o1.2 70 (by decide)]; exact hX u hu) (fun u hu => by
      rw [ar_sar_ne (by decide), ar_sar, ar_sar, ar_sar_ne (by decide)]
      by_cases q : u = v
      · exact ⟨(if_pos ⟨rfl, q⟩).trans (by rw [q]), (if_pos ⟨rfl, q⟩).trans z_m1⟩
      · exact ⟨(if_neg (fun w => q w.2)).trans (hS u (by omega)).1, (if_neg (fun w => q w.2)).trans (hS u (by omega)).2⟩)
    have go : ∀ z, zI ((sB0 ex).1 v) = z → b_X7_looksForFar_36 N (b_X7_looksForFar_2 N (k + m + 1)) (nI v) (nI v) z σ = b_X7_looksForFar_52 N N (1 : Int32) σ2 := fun z hz => by
      rw [← e2, hz]
      unfold b_X7_looksForFar_36
      rw [nI_clamp (by omega)]
      refine gd_k b1 <| nm_k <| gd_k b1 <| nm_k <| nm_k ?_
      rw [nI_1]
    have zB : ¬ 0 < ex v → zI ((sB0 ex).1 v) = (1000000000 : Int32) := fun q => by
      show zI (if 0 < ex v then 0 else bfI) = _
      rw [if_neg q]
      exact z_I.symm
    refine ⟨σ2, ?_, o1.tr o2, i2⟩
    show b_X7_looksForFar_2b N (b_X7_looksForFar_2 N (k + m + 1)) _ _ = _
    unfold b_X7_looksForFar_2b b_X7_looksForFar_34
    refine if_F c0 <| bd2_k (x_pl hS7 hv h61) ?_
    rw [nI_clamp (show v < 2 ^ 31 by omega)]
    by_cases p : PL S v
    · rw [decide_eq_true p, hX v p]
      refine if_F n10 <| gd_k b1 ?_
      by_cases q : 0 < ex v
      · refine if_F (by rw [z_0]; exact zle_F q (by decide) (by omega)) ?_
        exact go _ (by show zI (if 0 < ex v then 0 else bfI) = _; rw [if_pos q]; exact z_0.symm)
      · refine if_T (by rw [z_0]; exact zle_T (by omega) (by omega) (by decide)) ?_
        exact go _ (zB q)
    · rw [decide_eq_false p]
      refine if_T n00 ?_
      exact go _ (zB (by rw [hout v hv p]; decide))
theorem m_far {N S : Nat} (hS7 : S ≤ 7) (hn : n ≤ 70) (hN : HN n sr ds co cp) (hR : FB n cp fl) {p ex : Nat → Int} (hP : PO n sr ds co cp p fl) (hx : ∀ v, v < 8 → -2000000000 ≤ ex v ∧ ex v ≤ 2000000000) (hout : ∀ v, v < 8 → ¬ PL S v → ex v = 0) {σ : Sg} (h61 : ar σ 61 0 = nI S) (hG : MG n sr ds co cp fl σ) (hX : MX S ex σ) : ∃ σ' s rk, f_X7_looksForFar (N + 200) σ = some σ' ∧ OW pT σ σ' ∧ MF s σ' ∧ FS n sr ds co cp ex fl s rk := by
  obtain ⟨σ1, e1, o1, i1⟩ := m2 (N := N + 200) hS7 hx hout 8 (N + 191) 0 σ rfl h61 hX (fun u hu => absurd hu (Nat.not_lt_zero u))
  obtain ⟨σ2, R, e2, o2, i2, c2⟩ := m52 (N := N) hn hN hR hP (ex := ex) 8 (N + 191) 0 true σ1 rfl (fun _ => Nat.zero_le 7) (hG.op o1 (by decide)) i1 (s_J0 p ex fl) (fun w => by cases w)
  obtain ⟨rk, hF⟩ := fs_of hN hP rfl c2
  exact ⟨σ2, _, rk, e1.trans e2, o1.tr o2, i2, hF⟩
end MS
