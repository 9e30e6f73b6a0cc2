/-! the class's sending -/
def ax (a : Nat) : Nat := if a % 2 = 0 then a + 1 else a - 1
theorem nI_ax : ∀ a, a < 140 → nI a ^^^ (1 : Int32) = nI (ax a) := by decide
def p49 (k : Nat) : Bool := decide (k = 49)
def pE (k : Nat) : Bool := decide (k = 49 ∨ k = 51)
section SD
variable {n : Nat} {sr ds : Nat → Nat} {co cp fl ex : Nat → Int} {s : Bs} {rk : Nat → Nat}
theorem rm_upd {g : Nat → Int} {a b : Nat} {amt : Int} : rmA cp (updA g a amt) b = rmA cp g b + (if b = a then -amt else if b = ax a then amt else 0) := by
  unfold rmA ax
  by_cases h : b / 2 = a / 2
  · rw [h, updA_at]
    by_cases h1 : a % 2 = 0
    · rw [if_pos h1, if_pos h1]
      by_cases h2 : b % 2 = 0
      · rw [if_pos h2, if_pos h2, if_pos (by omega)]
        omega
      · rw [if_neg h2, if_neg h2, if_neg (show ¬ b = a by omega), if_pos (by omega)]
    · rw [if_neg h1, if_neg h1]
      by_cases h2 : b % 2 = 0
      · rw [if_pos h2, if_pos h2, if_neg (show ¬ b = a by omega), if_pos (by omega)]
        omega
      · rw [if_neg h2, if_neg h2, if_pos (by omega)]
        omega
  · rw [updA_ne h, if_neg (show ¬ b = a by omega), if_neg (show ¬ b = (if a % 2 = 0 then a + 1 else a - 1) by split <;> omega)]
    omega
theorem cs13 {N : Nat} {σ : Sg} (hn : n ≤ 70) (hN : HN n sr ds co cp) (hR : ∀ a, a < 2 * n → 0 ≤ rmA cp fl a ∧ rmA cp fl a ≤ 2000000000) (hF : FS n sr ds co cp ex fl s rk) (hG : CG n sr ds co cp fl σ) (hS : CS s σ) (t : Int32) : ∀ k f v m, k ≤ 8 → v < 8 → 0 ≤ m → m ≤ 2000000000 → b_X1_send_13 N (f + k + 1) t (zI m) (nI v) (nI (8 - k)) σ = b_X1_send_63 N t (zI (pAmt sr ds cp s fl k v m)) (nI (pRoot sr ds s k v)) σ
  | 0, f, v, m, hk, hv, h0, h1 => by
    show b_X1_send_13b N (b_X1_send_13 N f) _ _ _ _ _ = _
    unfold b_X1_send_13b
    exact if_T (of_eq_true (ile_T (Nat.le_refl 8) (by decide))) rfl
  | k + 1, f, v, m, hk, hv, h0, h1 => by
    have c0 : ¬ (8 : Int32) ≤ nI (8 - (k + 1)) := of_eq_false (ile_F (show 8 - (k + 1) < 8 by omega) (by decide))
    have b1 : inb (nI v) 8 = true := inb_nI hv (by decide)
    show b_X1_send_13b N (b_X1_send_13 N (f + k + 1)) _ _ _ _ _ = _
    unfold b_X1_send_13b
    rw [nI_clamp (show v < 2 ^ 31 by omega), (hS v hv).2]
    cases h : s.2 v with
    | none =>
      rw [pAmt_none h, pRoot_none h]
      exact if_F c0 <| gd_k b1 <| if_T (by rw [z_0]; exact zlt_T (by decide) (by decide) (by decide)) rfl
    | some a =>
      obtain ⟨a1, a2, a3, a4, a5, a6, a7⟩ := hF.2.1 v a hv h
      obtain ⟨g1, g2, g3, g4⟩ := hG.2 a a1
      have hr := hR a a1
      have b2 : inb (nI a) 140 = true := inb_nI (by omega) (by decide)
      rw [pAmt_some h, pRoot_some h, show zI (pz (some a)) = nI a from (nI_z a).symm, nI_clamp (show a < 2 ^ 31 by omega), g1, g3, zmin (by omega) (by omega) (by omega) (by omega)]
      refine if_F c0 <| gd_k b1 <| if_F (by rw [l_0]; exact of_eq_false (ilt_F (Nat.zero_le a) (by omega))) <| gd_k b1 <| gd_k b2 <| nm_k <| gd_k b1 <| gd_k b2 <| nm_k <| nm_k ?_
      rw [nI_1, show 8 - (k + 1) + 1 = 8 - k by omega]
      exact cs13 hn hN hR hF hG hS t k f (tlA sr ds a) (min m (rmA cp fl a)) (by omega) (tlA_lt hN a1).1 (by omega) (by omega)
theorem cs99 {N : Nat} (hn : n ≤ 70) (hN : HN n sr ds co cp) (hF : FS n sr ds co cp ex fl s rk) {amt : Int} : ∀ k f v g σ, k ≤ 8 → v < 8 → CG n sr ds co cp g σ → CS s σ → ∃ σ', b_X1_send_99 N (f + k + 1) (zI amt) (nI v) (nI (8 - k)) σ = some (zI amt, σ') ∧ OW p49 σ σ' ∧ CG n sr ds co cp (pUpd sr ds s amt k v g) σ'
  | 0, f, v, g, σ, hk, hv, hG, hS => by
    refine ⟨σ, ?_, OW.rf p49 σ, hG⟩
    show b_X1_send_99b N (b_X1_send_99 N f) _ _ _ _ = _
    unfold b_X1_send_99b
    exact if_T (of_eq_true (ile_T (Nat.le_refl 8) (by decide))) rfl
  | k + 1, f, v, g, σ, hk, hv, hG, hS => by
    have c0 : ¬ (8 : Int32) ≤ nI (8 - (k + 1)) := of_eq_false (ile_F (show 8 - (k + 1) < 8 by omega) (by decide))
    have b1 : inb (nI v) 8 = true := inb_nI hv (by decide)
    show ∃ σ', b_X1_send_99b N (b_X1_send_99 N (f + k + 1)) _ _ _ _ = _ ∧ _
    unfold b_X1_send_99b
    rw [nI_clamp (show v < 2 ^ 31 by omega), (hS v hv).2]
    cases h : s.2 v with
    | none =>
      rw [pUpd_none h]
      exact ⟨σ, if_F c0 <| gd_k b1 <| if_T (by rw [z_0]; exact zlt_T (by decide) (by decide) (by decide)) rfl, OW.rf p49 σ, hG⟩
    | some a =>
      obtain ⟨a1, a2, a3, a4, a5, a6, a7⟩ := hF.2.1 v a hv h
      obtain ⟨g1, g2, g3, g4⟩ := hG.2 a a1
      have hx1 : ax a < 2 * n := by unfold ax; split <;> omega
      have hx2 : ax a ≠ a := by unfold ax; split <;> omega
      have h3 := (hG.2 (ax a) hx1).2.2.1
      have b2 : inb (nI a) 140 = true := inb_nI (by omega) (by decide)
      have b3 : inb (nI (ax a)) 140 = true := inb_nI (by omega) (by decide)
      have o1 : OW p49 σ (sar (sar σ 49 a (zI (rmA cp g a) - zI amt)) 49 (ax a) (zI (rmA cp g (ax a)) + zI amt)) := ((OW.rf p49 σ).sar _ _ (by decide)).sar _ _ (by decide)
      have hG2 : CG n sr ds co cp (updA g a amt) (sar (sar σ 49 a (zI (rmA cp g a) - zI amt)) 49 (ax a) (zI (rmA cp g (ax a)) + zI amt)) := by
        refine ⟨by rw [o1.1]; exact hG.1, fun b hb => ?_⟩
        obtain ⟨k1, k2, k3, k4⟩ := hG.2 b hb
        rw [o1.2 47 (by decide), o1.2 48 (by decide), o1.2 50 (by decide)]
        refine ⟨k1, k2, ?_, k4⟩
        rw [rm_upd, ar_sar, ar_sar, zI_sub, zI_add]
        by_cases q1 : b = ax a
        · rw [if_pos ⟨rfl, q1⟩, if_neg (show ¬ b = a by omega), if_pos q1, q1]
        · rw [if_neg (fun w => q1 w.2)]
          by_cases q2 : b = a
          · rw [if_pos ⟨rfl, q2⟩, if_pos q2, q2]
            congr 1
          · rw [if_neg (fun w => q2 w.2), if_neg q2, if_neg q1, k3, Int.add_zero]
      have hS2 : CS s (sar (sar σ 49 a (zI (rmA cp g a) - zI amt)) 49 (ax a) (zI (rmA cp g (ax a)) + zI amt)) := fun u hu => by
        rw [o1.2 52 (by decide), o1.2 53 (by decide)]
        exact hS u hu
      obtain ⟨σ2, e2, o2, i2⟩ := cs99 hn hN hF k f (tlA sr ds a) (updA g a amt) _ (by omega) (tlA_lt hN a1).1 hG2 hS2
      have h47 : ar (sar (sar σ 49 a (zI (rmA cp g a) - zI amt)) 49 (ax a) (zI (rmA cp g (ax a)) + zI amt)) 47 a = nI (tlA sr ds a) := by rw [o1.2 47 (by decide)]; exact g1
      have h49 : ar (sar σ 49 a (zI (rmA cp g a) - zI amt)) 49 (ax a) = zI (rmA cp g (ax a)) := by rw [ar_s1 (fun w => hx2 w.2)]; exact h3
      rw [pUpd_some h]
      refine ⟨σ2, ?_, o1.tr o2, i2⟩
      rw [show zI (pz (some a)) = nI a from (nI_z a).symm]
      refine if_F c0 <| gd_k b1 <| if_F (by rw [l_0]; exact of_eq_false (ilt_F (Nat.zero_le a) (by omega))) <| gd_k b1 <| nm_k ?_
      rw [nI_ax a (by omega), nI_clamp (show a < 2 ^ 31 by omega), nI_clamp (show ax a < 2 ^ 31 by omega), g3]
      refine gd_k b2 <| gd_k b2 <| nm_k <| gd_k b3 <| gd_k b3 <| nm_k ?_
      rw [h49]
      refine gd_k b2 <| nm_k ?_
      rw [h47]
      refine nm_k ?_
      rw [nI_1, show 8 - (k + 1) + 1 = 8 - k by omega]
      exact e2
theorem cs_send {N : Nat} {σ : Sg} (hn : n ≤ 70) (hN : HN n sr ds co cp) (hR : ∀ a, a < 2 * n → 0 ≤ rmA cp fl a ∧ rmA cp fl a ≤ 2000000000) (hF : FS n sr ds co cp ex fl s rk) (hG : CG n sr ds co cp fl σ) (hS : CS s σ) (hx : ∀ v, v < 8 → -2000000000 ≤ ex v ∧ ex v ≤ 2000000000) (h51 : ∀ u, u < 8 → ar σ 51 u = zI (ex u)) {t : Nat} (ht : t < 8) (ht0 : ex t < 0) (hts : s.1 t < bfI) {amt : Int} (ha : amt = min (pAmt sr ds cp s fl 8 t (-(ex t))) (ex (pRoot sr ds s 8 t))) : ∃ σ', f_X1_send (N + 200) (nI t) σ = some (zI amt, σ') ∧ OW pE σ σ' ∧ CG n sr ds co cp (pUpd sr ds s amt 8 t fl) σ' ∧ ∀ u, u < 8 → ar σ' 51 u = zI (exN ex (pRoot sr ds s 8 t) t amt u) := by
  have hxt := hx t ht
  have hrk := (hF.2.2.2.2 t ht).1
  obtain ⟨r1, r2, r3, r4⟩ := pRoot_P hN hF 8 t ht hts (by omega)
  obtain ⟨m1, m2⟩ := pAmt_P (m := -(ex t)) hN hF 8 t ht
  have m3 := m2 (by omega)
  have hxr := hx _ r1
  have e1 := cs13 (N := N + 200) hn hN hR hF hG hS (nI t) 8 (N + 191) t (-(ex t)) (by omega) ht (by omega) (by omega)
  have o1 : OW pE σ (sar (sar σ 51 (pRoot sr ds s 8 t) (zI (ex (pRoot sr ds s 8 t)) - zI amt)) 51 t (ar (sar σ 51 (pRoot sr ds s 8 t) (zI (ex (pRoot sr ds s 8 t)) - zI amt)) 51 t + zI amt)) := ((OW.rf pE σ).sar _ _ (by decide)).sar _ _ (by decide)
  generalize hσ1 : (sar (sar σ 51 (pRoot sr ds s 8 t) (zI (ex (pRoot sr ds s 8 t)) - zI amt)) 51 t (ar (sar σ 51 (pRoot sr ds s 8 t) (zI (ex (pRoot sr ds s 8 t)) - zI amt)) 51 t + zI amt)) = σ1 at o1
  have q49 : ar σ1 49 = ar σ 49 := by rw [← hσ1, ar_sar_ne (by decide), ar_sar_ne (by decide)]
  have hG1 : CG n sr ds co cp fl σ1 := by
    refine ⟨by rw [o1.1]; exact hG.1, fun b hb => ?_⟩
    rw [o1.2 47 (by decide), o1.2 48 (by decide), o1.2 50 (by decide), q49]
    exact hG.2 b hb
  have hS1 : CS s σ1 := fun u hu => by
    rw [o1.2 52 (by decide), o1.2 53 (by decide)]
    exact hS u hu
  obtain ⟨σ2, e2, o2, i2⟩ := cs99 (N := N + 200) (amt := amt) hn hN hF 8 (N + 191) t fl σ1 (by omega) ht hG1 hS1
  refine ⟨σ2, ?_, o1.tr (o2.mo fun k hk => by unfold pE at hk; unfold p49; have := of_decide_eq_false hk; exact decide_eq_false (by omega)), i2, fun u hu => ?_⟩
  · unfold f_X1_send
    rw [nI_clamp (show t < 2 ^ 31 by omega), h51 t ht, zI_neg]
    refine gd_k (inb_nI ht (by decide)) <| nm_k ?_
    refine Eq.trans e1 ?_
    unfold b_X1_send_63
    have b1 : inb (nI (pRoot sr ds s 8 t)) 8 = true := inb_nI r1 (by decide)
    have b2 : inb (nI t) 8 = true := inb_nI ht (by decide)
    rw [nI_clamp (show t < 2 ^ 31 by omega), nI_clamp (show pRoot sr ds s 8 t < 2 ^ 31 by omega), h51 _ r1, zmin (by omega) (by omega) (by omega) (by omega), ← ha]
    refine gd_k b1 <| nm_k <| gd_k b1 <| gd_k b1 <| nm_k <| gd_k b2 <| gd_k b2 <| nm_k ?_
    rw [hσ1]
    exact e2
  · rw [o2.2 51 (by decide), ← hσ1, ar_sar, ar_sar, ar_sar]
    unfold exN
    by_cases q1 : u = t
    · rw [if_pos ⟨rfl, q1⟩, if_pos q1]
      by_cases q2 : t = pRoot sr ds s 8 t
      · rw [if_pos ⟨rfl, q2⟩, if_pos (q1.trans q2), zI_sub, zI_add, q1]
        congr 3
        exact congrArg ex q2.symm
      · rw [if_neg (fun w => q2 w.2), if_neg (fun w => q2 (q1.symm.trans w)), h51 t ht, zI_add, q1, Int.sub_zero]
    · rw [if_neg (fun w => q1 w.2), if_neg q1]
      by_cases q2 : u = pRoot sr ds s 8 t
      · rw [if_pos ⟨rfl, q2⟩, if_pos q2, zI_sub, Int.add_zero, q2]
      · rw [if_neg (fun w => q2 w.2), if_neg q2, h51 u hu, Int.add_zero, Int.sub_zero]
end SD
