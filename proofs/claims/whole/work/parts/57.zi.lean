/-! whole numbers as words -/
def zI (z : Int) : Int32 := Int32.ofInt z
theorem nI_z (n : Nat) : nI n = zI n := Int32.ofInt_eq_ofNat.symm
theorem zI_add (a b : Int) : zI a + zI b = zI (a + b) := (Int32.ofInt_add a b).symm
theorem zI_sub (a b : Int) : zI a - zI b = zI (a - b) := (Int32.ofInt_sub a b).symm
theorem zI_mul (a b : Int) : zI a * zI b = zI (a * b) := (Int32.ofInt_mul a b).symm
theorem zI_neg (a : Int) : -(zI a) = zI (-a) := (Int32.ofInt_neg a).symm
theorem zI_t {a : Int} (h1 : -2147483648 ≤ a) (h2 : a < 2147483648) : (zI a).toInt = a := Int32.toInt_ofInt_of_le h1 h2
theorem zle_T {a b : Int} (h : a ≤ b) (ha : -2147483648 ≤ a) (hb : b < 2147483648) : zI a ≤ zI b := by
  rw [Int32.le_iff_toInt_le, zI_t ha (by omega), zI_t (by omega) hb]
  exact h
theorem zle_F {a b : Int} (h : b < a) (hb : -2147483648 ≤ b) (ha : a < 2147483648) : ¬ zI a ≤ zI b := by
  rw [Int32.le_iff_toInt_le, zI_t (by omega) ha, zI_t hb (by omega)]
  omega
theorem zlt_T {a b : Int} (h : a < b) (ha : -2147483648 ≤ a) (hb : b < 2147483648) : zI a < zI b := by
  rw [Int32.lt_iff_toInt_lt, zI_t ha (by omega), zI_t (by omega) hb]
  exact h
theorem zlt_F {a b : Int} (h : b ≤ a) (hb : -2147483648 ≤ b) (ha : a < 2147483648) : ¬ zI a < zI b := by
  rw [Int32.lt_iff_toInt_lt, zI_t (by omega) ha, zI_t hb (by omega)]
  omega
theorem zeq_F {a b : Int} (h : a ≠ b) (ha : -2147483648 ≤ a) (ha' : a < 2147483648) (hb : -2147483648 ≤ b) (hb' : b < 2147483648) : ¬ zI a = zI b := fun q => h (by
  have := congrArg Int32.toInt q
  rw [zI_t ha ha', zI_t hb hb'] at this
  exact this)
theorem zmin {a b : Int} (ha : -2147483648 ≤ a) (ha' : a < 2147483648) (hb : -2147483648 ≤ b) (hb' : b < 2147483648) : imin (zI a) (zI b) = zI (min a b) := by
  unfold imin
  by_cases h : b < a
  · rw [if_pos (zlt_T h hb ha')]
    congr 1
    omega
  · rw [if_neg (zlt_F (by omega) ha hb')]
    congr 1
    omega
theorem z_0 : (0 : Int32) = zI 0 := (Eq.refl (zI 0)).trans rfl
theorem z_m1 : (-1 : Int32) = zI (-1) := by decide
theorem z_m5 : (-5 : Int32) = zI (-5) := by decide
theorem z_I : (1000000000 : Int32) = zI bfI := (Eq.refl (zI bfI)).trans rfl
def pz : Option Nat → Int
  | none => -1
  | some a => (a : Int)
/-- rows that may change -/
def OW (P : Nat → Bool) (σ σ' : Sg) : Prop := rg σ' = rg σ ∧ ∀ k, P k = false → ar σ' k = ar σ k
theorem OW.rf (P : Nat → Bool) (σ : Sg) : OW P σ σ := ⟨rfl, fun _ _ => rfl⟩
theorem OW.tr {P : Nat → Bool} {a b c : Sg} (h : OW P a b) (g : OW P b c) : OW P a c := ⟨g.1.trans h.1, fun k hk => (g.2 k hk).trans (h.2 k hk)⟩
theorem OW.sar {P : Nat → Bool} {a b : Sg} (h : OW P a b) {k : Nat} (j : Nat) (v : Int32) (hk : P k = true) : OW P a (sar b k j v) := ⟨h.1, fun q hq => (ar_sar_ne (fun e => by rw [e, hk] at hq; cases hq)).trans (h.2 q hq)⟩
theorem OW.mo {P Q : Nat → Bool} {a b : Sg} (h : OW P a b) (g : ∀ k, Q k = false → P k = false) : OW Q a b := ⟨h.1, fun k hk => h.2 k (g k hk)⟩
theorem OW.sm {P : Nat → Bool} {a b : Sg} (h : OW P a b) (g : ∀ k, cA k = true → P k = false) : Sm a b := ⟨fun k j _ => by rw [h.1], fun k hk => h.2 k (g k hk)⟩
/-! the class's graph -/
def pS (k : Nat) : Bool := decide (k = 52 ∨ k = 53)
theorem pS_k {k : Nat} (h : k ≠ 52) (h' : k ≠ 53) : pS k = false := decide_eq_false (by omega)
def CG (n : Nat) (sr ds : Nat → Nat) (co cp fl : Nat → Int) (σ : Sg) : Prop := rg σ 7 6 = nI (2 * n) ∧ ∀ a, a < 2 * n → ar σ 47 a = nI (tlA sr ds a) ∧ ar σ 48 a = nI (hdA sr ds a) ∧ ar σ 49 a = zI (rmA cp fl a) ∧ ar σ 50 a = zI (wtA co a)
def CS (s : Bs) (σ : Sg) : Prop := ∀ v, v < 8 → ar σ 52 v = zI (s.1 v) ∧ ar σ 53 v = zI (pz (s.2 v))
theorem CG.op {n : Nat} {sr ds : Nat → Nat} {co cp fl : Nat → Int} {σ σ' : Sg} (h : CG n sr ds co cp fl σ) (g : OW pS σ σ') : CG n sr ds co cp fl σ' := by
  refine ⟨by rw [g.1]; exact h.1, fun a ha => ?_⟩
  rw [g.2 47 (by decide), g.2 48 (by decide), g.2 49 (by decide), g.2 50 (by decide)]
  exact h.2 a ha
section CSR
variable {n : Nat} {sr ds : Nat → Nat} {co cp fl : Nat → Int}
theorem cs_arc {N : Nat} (hn : n ≤ 70) (hN : HN n sr ds co cp) (hR : ∀ a, a < 2 * n → 0 ≤ rmA cp fl a ∧ rmA cp fl a ≤ 2000000000) {k46 : Int32 → Int32 → Sg → Option Sg} {k60 : Int32 → Int32 → Int32 → Sg → Option Sg} {c : Bool} {x2 : Int32} {a : Nat} (ha : a < 2 * n) {s : Bs} (hs : ∀ v, v < 8 → -7000 ≤ s.1 v ∧ s.1 v ≤ bfI) {σ : Sg} (hG : CG n sr ds co cp fl σ) (hS : CS s σ) : ∃ σ', b_X1_search_60b N k46 k60 (nI c.toNat) x2 (nI a) σ = k60 (nI (c || bfg (tlA sr ds) (hdA sr ds) (wtA co) (rsA cp fl) a s).toNat) x2 (nI (a + 1)) σ' ∧ OW pS σ σ' ∧ CS (bf1 (tlA sr ds) (hdA sr ds) (wtA co) (rsA cp fl) a s) σ' := by
  obtain ⟨g0, g1⟩ := hG
  obtain ⟨h47, h48, h49, h50⟩ := g1 a ha
  obtain ⟨t1, t2, t3, t4⟩ := tlA_lt hN ha
  obtain ⟨r1, r2⟩ := hR a ha
  have u1 := hs _ t1
  have u2 := hs _ t2
  have s1 := hS _ t1
  have s2 := hS _ t2
  have e1 : ∀ c' σ', b_X1_search_154 N k46 k60 c' x2 (nI a) σ' = k60 c' x2 (nI (a + 1)) σ' := fun c' σ' => by
    unfold b_X1_search_154
    refine nm_k ?_
    rw [nI_1]
  unfold b_X1_search_60b
  rw [g0, nI_clamp (show a < 2 ^ 31 by omega), h47, h48, h49, h50, nI_clamp (show tlA sr ds a < 2 ^ 31 by omega), nI_clamp (show hdA sr ds a < 2 ^ 31 by omega), s1.1, s2.1]
  have hz : zI (s.1 (tlA sr ds a)) + zI (wtA co a) = zI (s.1 (tlA sr ds a) + wtA co a) := zI_add _ _
  have b1 : inb (nI a) 140 = true := inb_nI (by omega) (by decide)
  have b2 : inb (nI (tlA sr ds a)) 8 = true := inb_nI t1 (by decide)
  have b3 : inb (nI (hdA sr ds a)) 8 = true := inb_nI t2 (by decide)
  have c0 : ¬ nI (2 * n) ≤ nI a := of_eq_false (ile_F ha (by omega))
  by_cases q1 : 0 < rmA cp fl a
  · have c1 : ¬ zI (rmA cp fl a) ≤ 0 := by rw [z_0]; exact zle_F q1 (by omega) (by omega)
    by_cases q2 : s.1 (tlA sr ds a) < bfI
    · have c2 : ¬ (1000000000 : Int32) ≤ zI (s.1 (tlA sr ds a)) := by rw [z_I]; exact zle_F q2 (by omega) (by decide)
      unfold bfI at u1 u2 q2
      by_cases q3 : s.1 (tlA sr ds a) + wtA co a < s.1 (hdA sr ds a)
      · have c3 : ¬ zI (s.1 (hdA sr ds a)) ≤ zI (s.1 (tlA sr ds a)) + zI (wtA co a) := by rw [hz]; exact zle_F q3 (by omega) (by omega)
        have hb : bfg (tlA sr ds) (hdA sr ds) (wtA co) (rsA cp fl) a s = true := bfg_iff.mpr ⟨decide_eq_true q1, q2, q3⟩
        have h48' : ar (sar σ 52 (hdA sr ds a) (zI (s.1 (tlA sr ds a)) + zI (wtA co a))) 48 a = nI (hdA sr ds a) := by rw [ar_sar_ne (by decide)]; exact h48
        refine ⟨sar (sar σ 52 (hdA sr ds a) (zI (s.1 (tlA sr ds a)) + zI (wtA co a))) 53 (hdA sr ds a) (nI a), ?_, ((OW.rf pS σ).sar _ _ (by decide)).sar _ _ (by decide), fun v hv => ?_⟩
        · refine if_F c0 <| gd_k b1 <| gd_k b2 <| nm_k <| gd_k b1 <| if_F c1 <| if_F c2 <| gd_k b1 <| gd_k b1 <| gd_k b3 <| if_F c3 <| gd_k b1 <| gd_k b1 <| gd_k b3 <| nm_k ?_
          rw [h48', nI_clamp (show hdA sr ds a < 2 ^ 31 by omega)]
          refine gd_k b1 (gd_k b3 (nm_k ?_))
          rw [e1, hb, Bool.or_true]
          rfl
        · unfold bf1
          rw [hz, if_pos hb, ar_sar_ne (by decide), ar_sar, ar_sar, ar_sar_ne (by decide)]
          (try dsimp only)
          by_cases q : v = hdA sr ds a
          · rw [if_pos q, if_pos q]
            exact ⟨if_pos ⟨rfl, q⟩, (if_pos ⟨rfl, q⟩).trans (nI_z a)⟩
          · rw [if_neg q, if_neg q]
            exact ⟨(if_neg (fun w => q w.2)).trans (hS v hv).1, (if_neg (fun w => q w.2)).trans (hS v hv).2⟩
      · have c3 : zI (s.1 (hdA sr ds a)) ≤ zI (s.1 (tlA sr ds a)) + zI (wtA co a) := by rw [hz]; exact zle_T (by omega) (by omega) (by omega)
        have hb : bfg (tlA sr ds) (hdA sr ds) (wtA co) (rsA cp fl) a s = false := bF (fun w => q3 (bfg_iff.mp w).2.2)
        refine ⟨σ, ?_, OW.rf pS σ, ?_⟩
        · refine if_F c0 <| gd_k b1 <| gd_k b2 <| nm_k <| gd_k b1 <| if_F c1 <| if_F c2 <| gd_k b1 <| gd_k b1 <| gd_k b3 <| if_T c3 ?_
          rw [e1, hb, Bool.or_false]
        · unfold bf1
          rw [if_neg (by rw [hb]; decide)]
          exact hS
    · have c2 : (1000000000 : Int32) ≤ zI (s.1 (tlA sr ds a)) := by rw [z_I]; exact zle_T (by omega) (by decide) (by unfold bfI at u1; omega)
      have hb : bfg (tlA sr ds) (hdA sr ds) (wtA co) (rsA cp fl) a s = false := bF (fun w => q2 (bfg_iff.mp w).2.1)
      refine ⟨σ, ?_, OW.rf pS σ, ?_⟩
      · refine if_F c0 <| gd_k b1 <| gd_k b2 <| nm_k <| gd_k b1 <| if_F c1 <| if_T c2 ?_
        rw [e1, hb, Bool.or_false]
      · unfold bf1
        rw [if_neg (by rw [hb]; decide)]
        exact hS
  · have c1 : zI (rmA cp fl a) ≤ 0 := by rw [z_0]; exact zle_T (by omega) (by omega) (by decide)
    have hb : bfg (tlA sr ds) (hdA sr ds) (wtA co) (rsA cp fl) a s = false := bF (fun w => q1 (of_decide_eq_true (bfg_iff.mp w).1))
    refine ⟨σ, ?_, OW.rf pS σ, ?_⟩
    · refine if_F c0 <| gd_k b1 <| gd_k b2 <| nm_k <| gd_k b1 <| if_T c1 ?_
      rw [e1, hb, Bool.or_false]
    · unfold bf1
      rw [if_neg (by rw [hb]; decide)]
      exact hS
theorem cs60 {N : Nat} (hn : n ≤ 70) (hN : HN n sr ds co cp) (hR : ∀ a, a < 2 * n → 0 ≤ rmA cp fl a ∧ rmA cp fl a ≤ 2000000000) {J : Bs → Prop} (hJ1 : ∀ s a, a < 2 * n → J s → J (bf1 (tlA sr ds) (hdA sr ds) (wtA co) (rsA cp fl) a s)) (hJ2 : ∀ s, J s → ∀ v, v < 8 → -7000 ≤ s.1 v ∧ s.1 v ≤ bfI) (k46 : Int32 → Int32 → Sg → Option Sg) (r : Nat) : ∀ m k a c s σ, a + m = 2 * n → J s → CG n sr ds co cp fl σ → CS s σ → ∃ σ', b_X1_search_60 N k46 (k + m + 1) (nI (Bool.toNat c)) (nI r) (nI a) σ = k46 (nI (c || bfc (tlA sr ds) (hdA sr ds) (wtA co) (rsA cp fl) (List.range' a m) s).toNat) (nI (r + 1)) σ' ∧ OW pS σ σ' ∧ CS (bfr (tlA sr ds) (hdA sr ds) (wtA co) (rsA cp fl) (List.range' a m) s) σ' ∧ J (bfr (tlA sr ds) (hdA sr ds) (wtA co) (rsA cp fl) (List.range' a m) s)
  | 0, k, a, c, s, σ, h, hj, hG, hS => by
    refine ⟨σ, ?_, OW.rf pS σ, hS, hj⟩
    show b_X1_search_60b N k46 (b_X1_search_60 N k46 k) _ _ _ _ = _
    unfold b_X1_search_60b
    rw [hG.1]
    refine if_T (of_eq_true (ile_T (by omega) (by omega))) (nm_k ?_)
    rw [nI_1]
    show _ = k46 (nI (c || false).toNat) _ _
    rw [Bool.or_false]
  | m + 1, k, a, c, s, σ, h, hj, hG, hS => by
    obtain ⟨σ1, e1, o1, i1⟩ := cs_arc (N := N) (k46 := k46) (k60 := b_X1_search_60 N k46 (k + m + 1)) (c := c) (x2 := nI r) hn hN hR (show a < 2 * n by omega) (hJ2 s hj) hG hS
    obtain ⟨σ2, e2, o2, i2, j2⟩ := cs60 hn hN hR hJ1 hJ2 k46 r m k (a + 1) (c || bfg (tlA sr ds) (hdA sr ds) (wtA co) (rsA cp fl) a s) (bf1 (tlA sr ds) (hdA sr ds) (wtA co) (rsA cp fl) a s) σ1 (by omega) (hJ1 s a (by omega) hj) (hG.op o1) i1
    refine ⟨σ2, ?_, o1.tr o2, ?_, ?_⟩
    · rw [List.range'_succ]
      show b_X1_search_60b N k46 (b_X1_search_60 N k46 (k + m + 1)) _ _ _ _ = k46 (nI (c || (bfg (tlA sr ds) (hdA sr ds) (wtA co) (rsA cp fl) a s || bfc (tlA sr ds) (hdA sr ds) (wtA co) (rsA cp fl) (List.range' (a + 1) m) _)).toNat) _ _
      rw [e1, e2, Bool.or_assoc]
    · rw [List.range'_succ]
      exact i2
    · rw [List.range'_succ]
      exact j2
end CSR
