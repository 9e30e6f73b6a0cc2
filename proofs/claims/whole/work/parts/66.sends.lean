/-! the model's sending -/
theorem rem_100 : ∀ x, x < 200 → nI x - nI x / (100 : Int32) * (100 : Int32) = nI (x % 100) := by decide +kernel
def p69 (k : Nat) : Bool := decide (k = 69)
def pU (k : Nat) : Bool := decide (k = 69 ∨ k = 70 ∨ k = 71 ∨ k = 72)
section MD
variable {n : Nat} {sr ds : Nat → Nat} {co cp fl ex : Nat → Int} {s : Bs} {rk : Nat → Nat}
theorem pm_ne {a : Nat} (ha : a < 140) : ¬ zI (pm (some a)) = (-1 : Int32) := by
  rw [z_m1]
  have h : 0 ≤ pm (some a) ∧ pm (some a) < 1000 := by
    show 0 ≤ (if a % 2 = 0 then ((a / 2 : Nat) : Int) else ((100 + a / 2 : Nat) : Int)) ∧ (if a % 2 = 0 then ((a / 2 : Nat) : Int) else ((100 + a / 2 : Nat) : Int)) < 1000
    split <;> omega
  exact zeq_F (by omega) (by omega) (by omega) (by decide) (by decide)
theorem m_room {N : Nat} {σ : Sg} (hn : n ≤ 70) (hG : MG n sr ds co cp fl σ) {v a : Nat} (hv : v < 8) (h72 : ar σ 72 v = zI (pm (some a))) (ha : a < 2 * n) : f_X7_roomBehind N (nI v) σ = some (zI (rmA cp fl a), σ) := by
  have b1 : inb (nI v) 8 = true := inb_nI hv (by decide)
  unfold f_X7_roomBehind
  rw [nI_clamp (show v < 2 ^ 31 by omega), h72]
  by_cases h : a % 2 = 0
  · obtain ⟨q, rfl⟩ : ∃ q, a = 2 * q := ⟨a / 2, by omega⟩
    obtain ⟨g1, g2, g3, g4, g5⟩ := hG.2 q (by omega)
    obtain ⟨⟨a1, a2, a3, a4⟩, -⟩ := arc2 sr ds co cp fl q
    have b2 : inb (nI q) 70 = true := inb_nI (by omega) (by decide)
    rw [pm_0, rem_100 q (by omega), show q % 100 = q by omega, l_100]
    refine gd_k b1 <| nm_k <| gd_k b1 <| if_F (of_eq_false (ile_F (show q < 100 by omega) (by decide))) <| gd_k b2 <| gd_k b2 ?_
    rw [nI_clamp (show q < 2 ^ 31 by omega), g4, g5, zI_sub, a4]
  · obtain ⟨q, rfl⟩ : ∃ q, a = 2 * q + 1 := ⟨a / 2, by omega⟩
    obtain ⟨g1, g2, g3, g4, g5⟩ := hG.2 q (by omega)
    obtain ⟨-, a1, a2, a3, a4⟩ := arc2 sr ds co cp fl q
    have b2 : inb (nI q) 70 = true := inb_nI (by omega) (by decide)
    rw [pm_1, rem_100 (100 + q) (by omega), show (100 + q) % 100 = q by omega, l_100]
    refine gd_k b1 <| nm_k <| gd_k b1 <| if_T (of_eq_true (ile_T (show 100 ≤ 100 + q by omega) (by omega))) <| gd_k b2 ?_
    rw [nI_clamp (show q < 2 ^ 31 by omega), g5, a4]
theorem m_before {N : Nat} {σ : Sg} (hn : n ≤ 70) (hG : MG n sr ds co cp fl σ) {v a : Nat} (hv : v < 8) (h72 : ar σ 72 v = zI (pm (some a))) (ha : a < 2 * n) : f_X7_before N (nI v) σ = some (nI (tlA sr ds a), σ) := by
  have b1 : inb (nI v) 8 = true := inb_nI hv (by decide)
  unfold f_X7_before
  rw [nI_clamp (show v < 2 ^ 31 by omega), h72]
  by_cases h : a % 2 = 0
  · obtain ⟨q, rfl⟩ : ∃ q, a = 2 * q := ⟨a / 2, by omega⟩
    obtain ⟨g1, g2, g3, g4, g5⟩ := hG.2 q (by omega)
    obtain ⟨⟨a1, a2, a3, a4⟩, -⟩ := arc2 sr ds co cp fl q
    have b2 : inb (nI q) 70 = true := inb_nI (by omega) (by decide)
    rw [pm_0, l_100]
    refine gd_k b1 <| if_F (of_eq_false (ile_F (show q < 100 by omega) (by decide))) <| gd_k b1 <| gd_k b2 ?_
    rw [nI_clamp (show q < 2 ^ 31 by omega), g1, a1]
  · obtain ⟨q, rfl⟩ : ∃ q, a = 2 * q + 1 := ⟨a / 2, by omega⟩
    obtain ⟨g1, g2, g3, g4, g5⟩ := hG.2 q (by omega)
    obtain ⟨-, a1, a2, a3, a4⟩ := arc2 sr ds co cp fl q
    have b2 : inb (nI q) 70 = true := inb_nI (by omega) (by decide)
    rw [pm_1, l_100, pk_sub (show 100 ≤ 100 + q by omega), show 100 + q - 100 = q by omega]
    refine gd_k b1 <| if_T (of_eq_true (ile_T (show 100 ≤ 100 + q by omega) (by omega))) <| gd_k b1 <| gd_k b2 ?_
    rw [nI_clamp (show q < 2 ^ 31 by omega), g2, a1]
theorem m91 {N S : Nat} {σ : Sg} (hn : n ≤ 70) (hN : HN n sr ds co cp) (hR : FB n cp fl) (hF : FS n sr ds co cp ex fl s rk) (hG : MG n sr ds co cp fl σ) (hS : MF s σ) (hX : MX S ex σ) (hx : ∀ v, v < 8 → -2000000000 ≤ ex v ∧ ex v ≤ 2000000000) (hout : ∀ v, v < 8 → ¬ PL S v → ex v = 0) (t : Int32) : ∀ k f v m, v < 8 → s.1 v < bfI → rk v < k → 0 ≤ m → m ≤ 2000000000 → b_X7_sends_91 N (f + k) t (zI m) (nI v) σ = b_X7_sends_149 N t (nI (pRoot sr ds s k v)) (zI (min (pAmt sr ds cp s fl k v m) (ex (pRoot sr ds s k v)))) σ
  | 0, f, v, m, hv, h1, h2, h3, h4 => absurd h2 (Nat.not_lt_zero _)
  | k + 1, f, v, m, hv, h1, h2, h3, h4 => by
    have b1 : inb (nI v) 8 = true := inb_nI hv (by decide)
    have hs := hS v hv
    have hxv := hx v hv
    show b_X7_sends_91b N (b_X7_sends_91 N (f + k)) _ _ _ _ = _
    unfold b_X7_sends_91b
    rw [nI_clamp (show v < 2 ^ 31 by omega), hs.2]
    cases h : s.2 v with
    | none =>
      rw [pAmt_none h, pRoot_none h]
      have hp : PL S v := Classical.byContradiction fun q => by
        rcases hF.1 v hv h with w | w
        · omega
        · have := hout v hv q
          omega
      rw [hX v hp]
      refine gd_k b1 <| if_T z_m1.symm <| gd_k b1 ?_
      by_cases q : m ≤ ex v
      · refine if_T (zle_T q (by omega) (by omega)) ?_
        rw [show min m (ex v) = m by omega]
      · refine if_F (zle_F (by omega) (by omega) (by omega)) (gd_k b1 ?_)
        rw [show min m (ex v) = ex v by omega]
    | some a =>
      obtain ⟨a1, a2, a3, a4, a5, a6, a7⟩ := hF.2.1 v a hv h
      have h72 : ar σ 72 v = zI (pm (some a)) := by rw [hs.2, h]
      have e1 := m_room (N := N) hn hG hv h72 a1
      have e2 := m_before (N := N) hn hG hv h72 a1
      have hr : rmA cp fl a ≤ 1000000000 := by
        have := hR (a / 2) (by omega)
        unfold rmA
        split <;> omega
      have go : b_X7_sends_119 N (b_X7_sends_91 N (f + k)) t (nI v) (zI (min m (rmA cp fl a))) σ = b_X7_sends_149 N t (nI (pRoot sr ds s (k + 1) v)) (zI (min (pAmt sr ds cp s fl (k + 1) v m) (ex (pRoot sr ds s (k + 1) v)))) σ := by
        rw [pAmt_some h, pRoot_some h]
        unfold b_X7_sends_119
        exact bd2_k e2 (m91 hn hN hR hF hG hS hX hx hout t k f (tlA sr ds a) (min m (rmA cp fl a)) (tlA_lt hN a1).1 a5 (by omega) (by omega) (by omega))
      refine gd_k b1 <| if_F (pm_ne (by omega)) <| bd2_k e1 ?_
      by_cases q : m ≤ rmA cp fl a
      · refine if_T (zle_T q (by omega) (by omega)) ?_
        rw [show min m (rmA cp fl a) = m by omega] at go
        exact go
      · refine if_F (zle_F (by omega) (by omega) (by omega)) (bd2_k e1 ?_)
        rw [show min m (rmA cp fl a) = rmA cp fl a by omega] at go
        exact go
theorem m172 {N : Nat} (hn : n ≤ 70) (hN : HN n sr ds co cp) (hF : FS n sr ds co cp ex fl s rk) {amt : Int} : ∀ k f v g σ, v < 8 → s.1 v < bfI → rk v < k → MG n sr ds co cp g σ → MF s σ → ∃ σ', b_X7_sends_172 N (f + k) (zI amt) (nI v) σ = some (nI 1, σ') ∧ OW p69 σ σ' ∧ MG n sr ds co cp (pUpd sr ds s amt k v g) σ'
  | 0, f, v, g, σ, hv, h1, h2, hG, hS => absurd h2 (Nat.not_lt_zero _)
  | k + 1, f, v, g, σ, hv, h1, h2, hG, hS => by
    have b1 : inb (nI v) 8 = true := inb_nI hv (by decide)
    have hs := hS v hv
    show ∃ σ', b_X7_sends_172b N (b_X7_sends_172 N (f + k)) _ _ _ = _ ∧ _
    unfold b_X7_sends_172b
    rw [nI_clamp (show v < 2 ^ 31 by omega), hs.2]
    cases h : s.2 v with
    | none =>
      rw [pUpd_none h]
      exact ⟨σ, gd_k b1 <| if_T z_m1.symm rfl, OW.rf p69 σ, hG⟩
    | some a =>
      obtain ⟨a1, a2, a3, a4, a5, a6, a7⟩ := hF.2.1 v a hv h
      rw [pUpd_some h]
      have step : ∀ q, a / 2 = q → q < n → ∃ σ', b_X7_sends_214 N (b_X7_sends_172 N (f + k)) (zI amt) (nI v) (nI q) (zI (g q)) (zI (updA g a amt q - g q)) σ = some (nI 1, σ') ∧ OW p69 σ σ' ∧ MG n sr ds co cp (pUpd sr ds s amt k (tlA sr ds a) (updA g a amt)) σ' := fun q hq hqn => by
        have b2 : inb (nI q) 70 = true := inb_nI (by omega) (by decide)
        have o1 : OW p69 σ (sar σ 69 q (zI (g q) + zI (updA g a amt q - g q))) := (OW.rf p69 σ).sar _ _ (by decide)
        have hG2 : MG n sr ds co cp (updA g a amt) (sar σ 69 q (zI (g q) + zI (updA g a amt q - g q))) := by
          refine ⟨by rw [o1.1]; exact hG.1, fun x hx => ?_⟩
          rw [o1.2 65 (by decide), o1.2 66 (by decide), o1.2 67 (by decide), o1.2 68 (by decide)]
          obtain ⟨k1, k2, k3, k4, k5⟩ := hG.2 x hx
          refine ⟨k1, k2, k3, k4, ?_⟩
          rw [ar_sar, zI_add]
          by_cases w : x = q
          · rw [if_pos ⟨rfl, w⟩, w]
            congr 1
            omega
          · rw [if_neg (fun z => w z.2), k5, updA_ne (by omega)]
        have hS2 : MF s (sar σ 69 q (zI (g q) + zI (updA g a amt q - g q))) := fun u hu => by
          rw [o1.2 71 (by decide), o1.2 72 (by decide)]
          exact hS u hu
        have e2 := m_before (N := N) hn hG2 hv (show ar (sar σ 69 q (zI (g q) + zI (updA g a amt q - g q))) 72 v = zI (pm (some a)) by rw [o1.2 72 (by decide), hs.2, h]) a1
        obtain ⟨σ2, e3, o2, i2⟩ := m172 hn hN hF k f (tlA sr ds a) (updA g a amt) _ (tlA_lt hN a1).1 a5 (by omega) hG2 hS2
        refine ⟨σ2, ?_, o1.tr o2, i2⟩
        unfold b_X7_sends_214
        rw [nI_clamp (show q < 2 ^ 31 by omega)]
        exact gd_k b2 (nm_k (bd2_k e2 e3))
      by_cases hp : a % 2 = 0
      · obtain ⟨q, rfl⟩ : ∃ q, a = 2 * q := ⟨a / 2, by omega⟩
        obtain ⟨σ', e', o', i'⟩ := step q (by omega) (by omega)
        have b2 : inb (nI q) 70 = true := inb_nI (by omega) (by decide)
        refine ⟨σ', ?_, o', i'⟩
        rw [← e', pm_0, rem_100 q (by omega), show q % 100 = q by omega, nI_clamp (show q < 2 ^ 31 by omega), (hG.2 q (by omega)).2.2.2.2, l_100]
        refine gd_k b1 <| if_F (by have := pm_ne (a := 2 * q) (by omega); rw [pm_0] at this; exact this) <| gd_k b1 <| gd_k b2 <| gd_k b1 <| if_F (of_eq_false (ile_F (show q < 100 by omega) (by decide))) ?_
        have e4 : updA g (2 * q) amt q - g q = amt := by
          unfold updA
          rw [if_pos (by omega), if_pos hp]
          omega
        rw [e4]
      · obtain ⟨q, rfl⟩ : ∃ q, a = 2 * q + 1 := ⟨a / 2, by omega⟩
        obtain ⟨σ', e', o', i'⟩ := step q (by omega) (by omega)
        have b2 : inb (nI q) 70 = true := inb_nI (by omega) (by decide)
        refine ⟨σ', ?_, o', i'⟩
        rw [← e', pm_1, rem_100 (100 + q) (by omega), show (100 + q) % 100 = q by omega, nI_clamp (show q < 2 ^ 31 by omega), (hG.2 q (by omega)).2.2.2.2, l_100]
        refine gd_k b1 <| if_F (by have := pm_ne (a := 2 * q + 1) (by omega); rw [pm_1] at this; exact this) <| gd_k b1 <| gd_k b2 <| gd_k b1 <| if_T (of_eq_true (ile_T (show 100 ≤ 100 + q by omega) (by omega))) ?_
        have e4 : updA g (2 * q + 1) amt q - g q = -amt := by
          unfold updA
          rw [if_pos (by omega), if_neg hp]
          omega
        rw [e4, zI_neg]
/-- which the model sends to -/
theorem m8 {N S : Nat} {σ : Sg} (hS7 : S ≤ 7) (h61 : ar σ 61 0 = nI S) (hS : MF s σ) (hX : MX S ex σ) (hx : ∀ v, v < 8 → -2000000000 ≤ ex v ∧ ex v ≤ 2000000000) (hout : ∀ v, v < 8 → ¬ PL S v → ex v = 0) (hs : ∀ v, v < 8 → -7000 ≤ s.1 v ∧ s.1 v ≤ bfI) : ∀ m k v (b : Option Nat), v + m = 8 → (b = none → ∀ u, u < v → ex u < 0 → bfI ≤ s.1 u) → (∀ t, b = some t → t < 8 ∧ PL S t ∧ ex t < 0 ∧ s.1 t < bfI) → ∃ b' : Option Nat, b_X7_sends_8 N (k + m + 1) (zI (pz b)) (nI v) σ = (if zI (pz b') = (-1 : Int32) then some ((0 : Int32), σ) else gd (inb (zI (pz b')) 8) (nm (-(ar σ 70 (zI (pz b')).toNatClampNeg)) fun x2 => b_X7_sends_91 N N (zI (pz b')) x2 (zI (pz b')) σ)) ∧ (b' = none → ∀ u, u < 8 → ex u < 0 → bfI ≤ s.1 u) ∧ (∀ t, b' = some t → t < 8 ∧ PL S t ∧ ex t < 0 ∧ s.1 t < bfI)
  | 0, k, v, b, h, hb0, hb1 => by
    have e : v = 8 := by omega
    subst e
    refine ⟨b, ?_, hb0, hb1⟩
    show b_X7_sends_8b N (b_X7_sends_8 N k) _ _ _ = _
    unfold b_X7_sends_8b
    exact if_T (of_eq_true (ile_T (Nat.le_refl 8) (by decide))) rfl
  | m + 1, k, v, b, h, hb0, hb1 => by
    have hv : v < 8 := by omega
    have c0 : ¬ (8 : Int32) ≤ nI v := of_eq_false (ile_F hv (by decide))
    have b1 : inb (nI v) 8 = true := inb_nI hv (by decide)
    have hxv := hx v hv
    have hsv := hs v hv
    unfold bfI at hsv
    have sk : (ex v < 0 → b = none → bfI ≤ s.1 v) → ∃ b' : Option Nat, b_X7_sends_8 N (k + m + 1) (zI (pz b)) (nI (v + 1)) σ = (if zI (pz b') = (-1 : Int32) then some ((0 : Int32), σ) else gd (inb (zI (pz b')) 8) (nm (-(ar σ 70 (zI (pz b')).toNatClampNeg)) fun x2 => b_X7_sends_91 N N (zI (pz b')) x2 (zI (pz b')) σ)) ∧ (b' = none → ∀ u, u < 8 → ex u < 0 → bfI ≤ s.1 u) ∧ (∀ t, b' = some t → t < 8 ∧ PL S t ∧ ex t < 0 ∧ s.1 t < bfI) := fun hsk => m8 hS7 h61 hS hX hx hout hs m k (v + 1) b (by omega) (fun w u hu hu2 => by
      by_cases w2 : u = v
      · rw [w2] at hu2 ⊢
        exact hsk hu2 w
      · exact hb0 w u (by omega) hu2) hb1
    have e66 : b_X7_sends_66 N (b_X7_sends_8 N (k + m + 1)) (zI (pz b)) (nI v) σ = b_X7_sends_8 N (k + m + 1) (zI (pz b)) (nI (v + 1)) σ := by
      unfold b_X7_sends_66 b_X7_sends_67
      refine nm_k ?_
      rw [nI_1]
    have e62 : b_X7_sends_62 N (b_X7_sends_8 N (k + m + 1)) (nI v) σ = b_X7_sends_8 N (k + m + 1) (zI (pz (some v))) (nI (v + 1)) σ := by
      unfold b_X7_sends_62 b_X7_sends_67
      refine nm_k ?_
      rw [nI_1, show zI (pz (some v)) = nI v from (nI_z v).symm]
    have take : PL S v → ex v < 0 → s.1 v < bfI → ∃ b' : Option Nat, b_X7_sends_8 N (k + m + 1) (zI (pz (some v))) (nI (v + 1)) σ = (if zI (pz b') = (-1 : Int32) then some ((0 : Int32), σ) else gd (inb (zI (pz b')) 8) (nm (-(ar σ 70 (zI (pz b')).toNatClampNeg)) fun x2 => b_X7_sends_91 N N (zI (pz b')) x2 (zI (pz b')) σ)) ∧ (b' = none → ∀ u, u < 8 → ex u < 0 → bfI ≤ s.1 u) ∧ (∀ t, b' = some t → t < 8 ∧ PL S t ∧ ex t < 0 ∧ s.1 t < bfI) := fun h1 h2 h3 => m8 hS7 h61 hS hX hx hout hs m k (v + 1) (some v) (by omega) (fun w => by cases w) (fun t w => by cases w; exact ⟨hv, h1, h2, h3⟩)
    show ∃ b', b_X7_sends_8b N (b_X7_sends_8 N (k + m + 1)) _ _ _ = _ ∧ _
    unfold b_X7_sends_8b
    by_cases hp : PL S v
    · have ep := x_pl (N := N) hS7 hv h61
      rw [decide_eq_true hp] at ep
      have hX' := hX v hp
      by_cases q1 : ex v < 0
      · have c1 : ¬ 0 ≤ zI (ex v) := by rw [z_0]; exact zle_F q1 (by omega) (by decide)
        by_cases q2 : s.1 v < bfI
        · have c2 : ¬ (1000000000 : Int32) ≤ zI (s.1 v) := by rw [z_I]; exact zle_F q2 (by omega) (by decide)
          cases b with
          | none =>
            obtain ⟨b', e', i1, i2⟩ := take hp q1 q2
            refine ⟨b', if_F c0 <| bd2_k ep <| if_F n10 <| gd_k b1 ?_, i1, i2⟩
            rw [nI_clamp (show v < 2 ^ 31 by omega), hX', (hS v hv).1]
            refine if_F c1 <| gd_k b1 <| if_F c2 <| if_T z_m1.symm ?_
            rw [e62]
            exact e'
          | some t =>
            obtain ⟨t1, t2, t3, t4⟩ := hb1 t rfl
            have ht : zI (pz (some t)) = nI t := (nI_z t).symm
            have st := hs t t1
            unfold bfI at st
            have c3 : ¬ zI (pz (some t)) = (-1 : Int32) := by
              rw [z_m1]
              exact zeq_F (by show (t : Int) ≠ -1; omega) (by show _ ≤ (t : Int); omega) (by show (t : Int) < _; omega) (by decide) (by decide)
            have bt : inb (nI t) 8 = true := inb_nI t1 (by decide)
            by_cases q3 : s.1 t ≤ s.1 v
            · obtain ⟨b', e', i1, i2⟩ := sk (fun _ w => by cases w)
              refine ⟨b', if_F c0 <| bd2_k ep <| if_F n10 <| gd_k b1 ?_, i1, i2⟩
              rw [nI_clamp (show v < 2 ^ 31 by omega), hX', (hS v hv).1]
              refine if_F c1 <| gd_k b1 <| if_F c2 <| if_F c3 <| gd_k b1 <| gd_k (by rw [ht]; exact bt) ?_
              rw [e66, ht, nI_clamp (show t < 2 ^ 31 by omega), (hS t t1).1]
              rw [ht] at e'
              exact if_T (zle_T q3 (by omega) (by omega)) e'
            · obtain ⟨b', e', i1, i2⟩ := take hp q1 q2
              refine ⟨b', if_F c0 <| bd2_k ep <| if_F n10 <| gd_k b1 ?_, i1, i2⟩
              rw [nI_clamp (show v < 2 ^ 31 by omega), hX', (hS v hv).1]
              refine if_F c1 <| gd_k b1 <| if_F c2 <| if_F c3 <| gd_k b1 <| gd_k (by rw [ht]; exact bt) ?_
              rw [e62, ht, nI_clamp (show t < 2 ^ 31 by omega), (hS t t1).1]
              exact if_F (zle_F (by omega) (by omega) (by omega)) e'
        · obtain ⟨b', e', i1, i2⟩ := sk (fun _ _ => by omega)
          have c2 : (1000000000 : Int32) ≤ zI (s.1 v) := by rw [z_I]; exact zle_T (by omega) (by decide) (by omega)
          refine ⟨b', if_F c0 <| bd2_k ep <| if_F n10 <| gd_k b1 ?_, i1, i2⟩
          rw [nI_clamp (show v < 2 ^ 31 by omega), hX', (hS v hv).1]
          refine if_F c1 <| gd_k b1 <| if_T c2 ?_
          rw [e66]
          exact e'
      · obtain ⟨b', e', i1, i2⟩ := sk (fun w => absurd w q1)
        have c1 : 0 ≤ zI (ex v) := by rw [z_0]; exact zle_T (by omega) (by decide) (by omega)
        refine ⟨b', if_F c0 <| bd2_k ep <| if_F n10 <| gd_k b1 ?_, i1, i2⟩
        rw [nI_clamp (show v < 2 ^ 31 by omega), hX']
        refine if_T c1 ?_
        rw [e66]
        exact e'
    · have ep := x_pl (N := N) hS7 hv h61
      rw [decide_eq_false hp] at ep
      obtain ⟨b', e', i1, i2⟩ := sk (fun w => by have := hout v hv hp; omega)
      refine ⟨b', if_F c0 <| bd2_k ep <| if_T n00 ?_, i1, i2⟩
      rw [e66]
      exact e'
theorem m_sends {N S : Nat} (hS7 : S ≤ 7) (hn : n ≤ 70) (hN : HN n sr ds co cp) (hR : FB n cp fl) {p : Nat → Int} (hP : PO n sr ds co cp p fl) (hx : ∀ v, v < 8 → -1000000 ≤ ex v ∧ ex v ≤ 1000000) (hout : ∀ v, v < 8 → ¬ PL S v → ex v = 0) {σ : Sg} (h61 : ar σ 61 0 = nI S) (hG : MG n sr ds co cp fl σ) (hX : MX S ex σ) : (∃ σ' s rk, f_X7_sends (N + 200) σ = some (nI 0, σ') ∧ OW pT σ σ' ∧ FS n sr ds co cp ex fl s rk ∧ ∀ u, u < 8 → ex u < 0 → bfI ≤ s.1 u) ∨ ∃ σ' s rk t amt, f_X7_sends (N + 200) σ = some (nI 1, σ') ∧ OW pU σ σ' ∧ FS n sr ds co cp ex fl s rk ∧ t < 8 ∧ ex t < 0 ∧ s.1 t < bfI ∧ amt = min (pAmt sr ds cp s fl 8 t (-(ex t))) (ex (pRoot sr ds s 8 t)) ∧ MG n sr ds co cp (pUpd sr ds s amt 8 t fl) σ' ∧ MX S (exN ex (pRoot sr ds s 8 t) t amt) σ' := by
  have hx' : ∀ v, v < 8 → -2000000000 ≤ ex v ∧ ex v ≤ 2000000000 := fun v hv => by have := hx v hv; omega
  obtain ⟨σ1, s, rk, e1, o1, hS, hF⟩ := m_far (N := N) hS7 hn hN hR hP hx' hout h61 hG hX
  have h61' : ar σ1 61 0 = nI S := by rw [o1.2 61 (by decide)]; exact h61
  have hG1 := hG.op o1 (by decide)
  have hX1 : MX S ex σ1 := fun u hu => by rw [o1.2 70 (by decide)]; exact hX u hu
  have hs2 : ∀ v, v < 8 → -7000 ≤ s.1 v ∧ s.1 v ≤ bfI := fun v hv => by
    have := (hF.2.2.2.2 v hv).2
    unfold bfI at *
    omega
  obtain ⟨b, e2, hn0, hn1⟩ := m8 (N := N + 200) hS7 h61' hS hX1 hx' hout hs2 8 (N + 191) 0 none rfl (fun _ u hu => absurd hu (Nat.not_lt_zero u)) (fun t w => by cases w)
  have e3 : f_X7_sends (N + 200) σ = b_X7_sends_8 (N + 200) (N + 191 + 8 + 1) (zI (pz none)) (nI 0) σ1 := by
    unfold f_X7_sends
    refine bd_k e1 ?_
    rw [z_m1]
    rfl
  rw [e2] at e3
  cases b with
  | none =>
    left
    refine ⟨σ1, s, rk, ?_, o1, hF, hn0 rfl⟩
    rw [e3]
    exact if_T z_m1.symm rfl
  | some t =>
    right
    obtain ⟨t1, tp, t2, t3⟩ := hn1 t rfl
    have hxt := hx' t t1
    have hrk := (hF.2.2.2.2 t t1).1
    obtain ⟨r1, r2, r3, r4⟩ := pRoot_P hN hF 8 t t1 t3 (by omega)
    have rp : PL S (pRoot sr ds s 8 t) := Classical.byContradiction fun q => by have := hout _ r1 q; omega
    have ht : zI (pz (some t)) = nI t := (nI_z t).symm
    have c3 : ¬ zI (pz (some t)) = (-1 : Int32) := by
      rw [z_m1]
      exact zeq_F (by show (t : Int) ≠ -1; omega) (by show _ ≤ (t : Int); omega) (by show (t : Int) < _; omega) (by decide) (by decide)
    have e4 := m91 (N := N + 200) hn hN hR hF hG1 hS hX1 hx' hout (nI t) 8 (N + 192) t (-(ex t)) t1 t3 (by omega) (by omega) (by omega)
    generalize hamt : min (pAmt sr ds cp s fl 8 t (-(ex t))) (ex (pRoot sr ds s 8 t)) = amt at e4
    have o2 : OW pU σ1 (sar (sar σ1 70 (pRoot sr ds s 8 t) (zI (ex (pRoot sr ds s 8 t)) - zI amt)) 70 t (ar (sar σ1 70 (pRoot sr ds s 8 t) (zI (ex (pRoot sr ds s 8 t)) - zI amt)) 70 t + zI amt)) := ((OW.rf pU σ1).sar _ _ (by decide)).sar _ _ (by decide)
    generalize hσ2 : (sar (sar σ1 70 (pRoot sr ds s 8 t) (zI (ex (pRoot sr ds s 8 t)) - zI amt)) 70 t (ar (sar σ1 70 (pRoot sr ds s 8 t) (zI (ex (pRoot sr ds s 8 t)) - zI amt)) 70 t + zI amt)) = σ2 at o2
    have q69 : ∀ k, k ≠ 70 → ar σ2 k = ar σ1 k := fun k hk => by rw [← hσ2, ar_sar_ne hk, ar_sar_ne hk]
    have hG2 : MG n sr ds co cp fl σ2 := by
      refine ⟨by rw [o2.1]; exact hG1.1, fun a ha => ?_⟩
      rw [q69 65 (by decide), q69 66 (by decide), q69 67 (by decide), q69 68 (by decide), q69 69 (by decide)]
      exact hG1.2 a ha
    have hS2 : MF s σ2 := fun u hu => by
      rw [q69 71 (by decide), q69 72 (by decide)]
      exact hS u hu
    obtain ⟨σ3, e5, o3, i3⟩ := m172 (N := N + 200) (amt := amt) hn hN hF 8 (N + 192) t fl σ2 t1 t3 (by omega) hG2 hS2
    have oT : OW pU σ σ1 := o1.mo fun k hk => by unfold pU at hk; unfold pT; have := of_decide_eq_false hk; exact decide_eq_false (by omega)
    have o3' : OW pU σ2 σ3 := o3.mo fun k hk => by unfold pU at hk; unfold p69; have := of_decide_eq_false hk; exact decide_eq_false (by omega)
    refine ⟨σ3, s, rk, t, amt, ?_, (oT.tr o2).tr o3', hF, t1, t2, t3, hamt.symm, i3, fun u hu => ?_⟩
    · rw [e3, ht]
      rw [ht] at c3
      refine if_F c3 <| gd_k (inb_nI t1 (by decide)) <| nm_k ?_
      rw [nI_clamp (show t < 2 ^ 31 by omega), hX1 t tp, zI_neg]
      refine Eq.trans e4 ?_
      unfold b_X7_sends_149
      have b1 : inb (nI (pRoot sr ds s 8 t)) 8 = true := inb_nI r1 (by decide)
      have b2 : inb (nI t) 8 = true := inb_nI t1 (by decide)
      rw [nI_clamp (show t < 2 ^ 31 by omega), nI_clamp (show pRoot sr ds s 8 t < 2 ^ 31 by omega), hX1 _ rp]
      refine gd_k b1 <| gd_k b1 <| nm_k <| gd_k b2 <| gd_k b2 <| nm_k ?_
      rw [hσ2]
      exact e5
    · rw [o3.2 70 (by decide), ← hσ2, ar_sar, ar_sar, ar_sar]
      unfold exN
      by_cases q1 : u = t
      · rw [if_pos ⟨rfl, q1⟩, if_pos q1]
        by_cases q2 : t = pRoot sr ds s 8 t
        · rw [if_pos ⟨rfl, q2⟩, if_pos (q1.trans q2), zI_sub, zI_add, q1]
          congr 3
          exact congrArg ex q2.symm
        · rw [if_neg (fun w => q2 w.2), if_neg (fun w => q2 (q1.symm.trans w)), hX1 t tp, zI_add, q1, Int.sub_zero]
      · rw [if_neg (fun w => q1 w.2), if_neg q1]
        by_cases q2 : u = pRoot sr ds s 8 t
        · rw [if_pos ⟨rfl, q2⟩, if_pos q2, zI_sub, Int.add_zero, q2]
        · rw [if_neg (fun w => q2 w.2), if_neg q2, hX1 u hu, Int.add_zero, Int.sub_zero]
end MD
