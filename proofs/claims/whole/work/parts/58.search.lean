/-! the search's beginning and end -/
section SE
variable {n : Nat} {sr ds : Nat → Nat} {co cp : Nat → Int}
abbrev sJh (n : Nat) (sr ds : Nat → Nat) (co cp p ex fl : Nat → Int) : Bs → Prop := bfJ (tlA sr ds) (hdA sr ds) (wtA co) (rsA cp fl) (fun v => decide (0 < ex v)) p (List.range (2 * n))
abbrev sCh (n : Nat) (sr ds : Nat → Nat) (co cp fl : Nat → Int) (s : Bs) : Bool := bfc (tlA sr ds) (hdA sr ds) (wtA co) (rsA cp fl) (List.range (2 * n)) s
abbrev sNh (n : Nat) (sr ds : Nat → Nat) (co cp fl : Nat → Int) (k : Nat) (s : Bs) : Bs := bfn (tlA sr ds) (hdA sr ds) (wtA co) (rsA cp fl) (List.range (2 * n)) k s
theorem s_hL (hN : HN n sr ds co cp) {p fl : Nat → Int} (hP : PO n sr ds co cp p fl) : ∀ a ∈ List.range (2 * n), tlA sr ds a < 8 ∧ hdA sr ds a < 8 ∧ (rsA cp fl a = true → 0 ≤ wtA co a + p (tlA sr ds a) - p (hdA sr ds a)) := fun a ha => by
  have ha' := List.mem_range.mp ha
  exact ⟨(tlA_lt hN ha').1, (tlA_lt hN ha').2.1, fun hr => po_arc hP ha' (of_decide_eq_true hr)⟩
theorem s_J0 (p ex fl : Nat → Int) : sJh n sr ds co cp p ex fl (sB0 ex) := by
  refine ⟨fun v _ => ?_, fun v _ h => ?_, fun v _ _ => ?_, (fun v a _ h => by cases h), fun _ => 0, 0, fun _ => Nat.le_refl 0, (fun v a _ h => by cases h)⟩
  · show (if 0 < ex v then 0 else bfI) ≤ bfI
    unfold bfI
    split <;> omega
  · show (if 0 < ex v then 0 else bfI) ≤ 0
    rw [if_pos (of_decide_eq_true h)]
    exact Int.le_refl 0
  · show (if 0 < ex v then 0 else bfI) = bfI ∨ ((if 0 < ex v then 0 else bfI) = 0 ∧ decide (0 < ex v) = true)
    by_cases h : 0 < ex v
    · right
      rw [if_pos h]
      exact ⟨rfl, decide_eq_true h⟩
    · left
      rw [if_neg h]
theorem s_J1 (hN : HN n sr ds co cp) {p ex fl : Nat → Int} (hP : PO n sr ds co cp p fl) : ∀ s a, a < 2 * n → sJh n sr ds co cp p ex fl s → sJh n sr ds co cp p ex fl (bf1 (tlA sr ds) (hdA sr ds) (wtA co) (rsA cp fl) a s) := fun s a ha h => bf1_J (s_hL hN hP) h (List.mem_range.mpr ha)
theorem s_J2 (hN : HN n sr ds co cp) {p ex fl : Nat → Int} : ∀ s, sJh n sr ds co cp p ex fl s → ∀ v, v < 8 → -7000 ≤ s.1 v ∧ s.1 v ≤ bfI := fun s h v hv => ⟨bfJ_low (fun a ha => ⟨(tlA_lt hN (List.mem_range.mp ha)).1, (tlA_lt hN (List.mem_range.mp ha)).2.2.1⟩) h hv, h.1 v hv⟩
theorem s_fix (hN : HN n sr ds co cp) {p ex fl : Nat → Int} (hP : PO n sr ds co cp p fl) : sCh n sr ds co cp fl (sNh n sr ds co cp fl 7 (sB0 ex)) = false := by
  refine bf_fix (src := fun v => decide (0 < ex v)) (p := p) (fun a ha => ?_) (s_J0 p ex fl) (fun v _ h => if_pos (of_decide_eq_true h)) (fun v _ h => if_neg (of_decide_eq_false h))
  obtain ⟨h1, h2, h3⟩ := s_hL hN hP a ha
  exact ⟨h1, h2, h3, (tlA_lt hN (List.mem_range.mp ha)).2.2.1⟩
/-- a round that bettered nothing -/
theorem s_st {fl : Nat → Int} {s : Bs} {k : Nat} (h : sCh n sr ds co cp fl (sNh n sr ds co cp fl k s) = false) : sCh n sr ds co cp fl (sNh n sr ds co cp fl (k + 1) s) = false := by
  have e : sNh n sr ds co cp fl (k + 1) s = sNh n sr ds co cp fl k s := (bfc_false _ _ h).1
  rw [e]
  exact h
end SE
section CS2
variable {n : Nat} {sr ds : Nat → Nat} {co cp fl : Nat → Int}
theorem cs46 {N : Nat} (hn : n ≤ 70) (hN : HN n sr ds co cp) (hR : ∀ a, a < 2 * n → 0 ≤ rmA cp fl a ∧ rmA cp fl a ≤ 2000000000) {p ex : Nat → Int} (hP : PO n sr ds co cp p fl) : ∀ m k r c σ, r + m = 8 → CG n sr ds co cp fl σ → CS (sNh n sr ds co cp fl r (sB0 ex)) σ → sJh n sr ds co cp p ex fl (sNh n sr ds co cp fl r (sB0 ex)) → (c = false → sCh n sr ds co cp fl (sNh n sr ds co cp fl r (sB0 ex)) = false) → ∃ σ' R, b_X1_search_46 (N + 200) (k + m + 1) (nI (Bool.toNat c)) (nI r) σ = some σ' ∧ OW pS σ σ' ∧ CS (sNh n sr ds co cp fl R (sB0 ex)) σ' ∧ sCh n sr ds co cp fl (sNh n sr ds co cp fl R (sB0 ex)) = false
  | 0, k, r, c, σ, h, hG, hS, hJ, hc => by
    have e : r = 8 := by omega
    subst e
    refine ⟨σ, 8, ?_, OW.rf pS σ, hS, s_st (s_fix hN hP)⟩
    show b_X1_search_46b (N + 200) (b_X1_search_46 (N + 200) k) _ _ _ = _
    unfold b_X1_search_46b
    exact if_T (of_eq_true (ile_T (Nat.le_refl 8) (by decide))) rfl
  | m + 1, k, r, c, σ, h, hG, hS, hJ, hc => by
    have c0 : ¬ (8 : Int32) ≤ nI r := of_eq_false (ile_F (show r < 8 by omega) (by decide))
    cases c with
    | false =>
      refine ⟨σ, r, ?_, OW.rf pS σ, hS, hc rfl⟩
      show b_X1_search_46b (N + 200) (b_X1_search_46 (N + 200) (k + m + 1)) _ _ _ = _
      unfold b_X1_search_46b
      exact if_F c0 (if_T n00 rfl)
    | true =>
      obtain ⟨σ1, e1, o1, i1, j1⟩ := cs60 (N := N + 200) hn hN hR (s_J1 hN hP) (s_J2 hN) (b_X1_search_46 (N + 200) (k + m + 1)) r (2 * n) (N + 199 - 2 * n) 0 false _ σ (by omega) hJ hG hS
      rw [show N + 199 - 2 * n + 2 * n + 1 = N + 200 by omega, Bool.false_or] at e1
      rw [← List.range_eq_range'] at e1 i1 j1
      obtain ⟨σ2, R, e2, o2, i2, c2⟩ := cs46 hn hN hR hP m k (r + 1) (sCh n sr ds co cp fl (sNh n sr ds co cp fl r (sB0 ex))) σ1 (by omega) (hG.op o1) i1 j1 (fun w => s_st w)
      refine ⟨σ2, R, ?_, o1.tr o2, i2, c2⟩
      show b_X1_search_46b (N + 200) (b_X1_search_46 (N + 200) (k + m + 1)) _ _ _ = _
      unfold b_X1_search_46b
      exact if_F c0 (if_F n10 (e1.trans e2))
theorem cs2 {N : Nat} {ex : Nat → Int} (hx : ∀ v, v < 8 → -2000000000 ≤ ex v ∧ ex v ≤ 2000000000) : ∀ m k v σ, v + m = 8 → (∀ u, u < 8 → ar σ 51 u = zI (ex u)) → (∀ u, u < v → ar σ 52 u = zI ((sB0 ex).1 u) ∧ ar σ 53 u = zI (-1)) → ∃ σ', b_X1_search_2 N (k + m + 1) (nI v) σ = b_X1_search_46 N N (1 : Int32) (0 : Int32) σ' ∧ OW pS σ σ' ∧ CS (sB0 ex) σ'
  | 0, k, v, σ, h, h51, hS => by
    have e : v = 8 := by omega
    subst e
    refine ⟨σ, ?_, OW.rf pS σ, hS⟩
    show b_X1_search_2b N (b_X1_search_2 N k) _ _ = _
    unfold b_X1_search_2b
    exact if_T (of_eq_true (ile_T (Nat.le_refl 8) (by decide))) rfl
  | m + 1, k, v, σ, h, h51, hS => by
    have hv : v < 8 := by omega
    have c0 : ¬ (8 : Int32) ≤ nI v := of_eq_false (ile_F hv (by decide))
    have b1 : inb (nI v) 8 = true := inb_nI hv (by decide)
    have hxv := hx v hv
    have o1 : OW pS σ (sar (sar σ 52 v (zI ((sB0 ex).1 v))) 53 v (-1 : Int32)) := ((OW.rf pS σ).sar _ _ (by decide)).sar _ _ (by decide)
    obtain ⟨σ2, e2, o2, i2⟩ := cs2 (N := N) hx m k (v + 1) (sar (sar σ 52 v (zI ((sB0 ex).1 v))) 53 v (-1 : Int32)) (by omega) (fun u hu => by rw [o1.2 51 (by decide)]; exact h51 u hu) (fun u hu => by
      rw [ar_sar_ne (by decide), ar_sar, ar_sar, ar_sar_ne (by decide)]
      by_cases q : u = v
      · exact ⟨(if_pos ⟨rfl, q⟩).trans (by rw [q]), (if_pos ⟨rfl, q⟩).trans z_m1⟩
      · exact ⟨(if_neg (fun w => q w.2)).trans (hS u (by omega)).1, (if_neg (fun w => q w.2)).trans (hS u (by omega)).2⟩)
    have go : ∀ z, zI ((sB0 ex).1 v) = z → b_X1_search_28 N (b_X1_search_2 N (k + m + 1)) (nI v) (nI v) z σ = b_X1_search_46 N N (1 : Int32) (0 : Int32) σ2 := fun z hz => by
      rw [← e2, hz]
      unfold b_X1_search_28
      rw [nI_clamp (by omega)]
      refine gd_k b1 <| nm_k <| gd_k b1 <| nm_k <| nm_k ?_
      rw [nI_1]
    refine ⟨σ2, ?_, o1.tr o2, i2⟩
    show b_X1_search_2b N (b_X1_search_2 N (k + m + 1)) _ _ = _
    unfold b_X1_search_2b
    rw [nI_clamp (show v < 2 ^ 31 by omega), h51 v hv]
    by_cases q : 0 < ex v
    · refine if_F c0 <| gd_k b1 <| if_F (by rw [z_0]; exact zle_F q (by decide) (by omega)) ?_
      exact go _ (by show zI (if 0 < ex v then 0 else bfI) = _; rw [if_pos q]; exact z_0.symm)
    · refine if_F c0 <| gd_k b1 <| if_T (by rw [z_0]; exact zle_T (by omega) (by omega) (by decide)) ?_
      exact go _ (by show zI (if 0 < ex v then 0 else bfI) = _; rw [if_neg q]; exact z_I.symm)
theorem cs_search {N : Nat} (hn : n ≤ 70) (hN : HN n sr ds co cp) (hR : ∀ a, a < 2 * n → 0 ≤ rmA cp fl a ∧ rmA cp fl a ≤ 2000000000) {p ex : Nat → Int} (hP : PO n sr ds co cp p fl) (hx : ∀ v, v < 8 → -2000000000 ≤ ex v ∧ ex v ≤ 2000000000) {σ : Sg} (hG : CG n sr ds co cp fl σ) (h51 : ∀ u, u < 8 → ar σ 51 u = zI (ex u)) : ∃ σ' s rk, f_X1_search (N + 200) σ = some σ' ∧ OW pS σ σ' ∧ CS s σ' ∧ FS n sr ds co cp ex fl s rk := by
  obtain ⟨σ1, e1, o1, i1⟩ := cs2 (N := N + 200) hx 8 (N + 191) 0 σ rfl h51 (fun u hu => absurd hu (Nat.not_lt_zero u))
  obtain ⟨σ2, R, e2, o2, i2, c2⟩ := cs46 (N := N) hn hN hR hP (ex := ex) 8 (N + 191) 0 true σ1 rfl (hG.op o1) i1 (s_J0 p ex fl) (fun w => by cases w)
  obtain ⟨rk, hF⟩ := fs_of hN hP rfl c2
  exact ⟨σ2, _, rk, e1.trans e2, o1.tr o2, i2, hF⟩
/-- whether one has too much -/
theorem c_uns {N : Nat} {ex : Nat → Int} (hx : ∀ v, v < 8 → -2000000000 ≤ ex v ∧ ex v ≤ 2000000000) {σ : Sg} (h51 : ∀ u, u < 8 → ar σ 51 u = zI (ex u)) : ∀ m k v, v + m = 8 → ∃ b : Bool, b_X1_isUnsettled_2 N (k + m + 1) (nI v) σ = some (nI b.toNat, σ) ∧ (b = false → ∀ u, v ≤ u → u < 8 → ex u ≤ 0) ∧ (b = true → ∃ u, u < 8 ∧ 0 < ex u)
  | 0, k, v, h => by
    have e : v = 8 := by omega
    subst e
    refine ⟨false, ?_, fun _ u h1 h2 => by omega, fun w => by cases w⟩
    show b_X1_isUnsettled_2b N (b_X1_isUnsettled_2 N k) _ _ = _
    unfold b_X1_isUnsettled_2b
    exact if_T (of_eq_true (ile_T (Nat.le_refl 8) (by decide))) rfl
  | m + 1, k, v, h => by
    have hv : v < 8 := by omega
    have c0 : ¬ (8 : Int32) ≤ nI v := of_eq_false (ile_F hv (by decide))
    have b1 : inb (nI v) 8 = true := inb_nI hv (by decide)
    have hxv := hx v hv
    by_cases q : 0 < ex v
    · refine ⟨true, ?_, (fun w => by cases w), fun _ => ⟨v, hv, q⟩⟩
      show b_X1_isUnsettled_2b N (b_X1_isUnsettled_2 N (k + m + 1)) _ _ = _
      unfold b_X1_isUnsettled_2b
      rw [nI_clamp (show v < 2 ^ 31 by omega), h51 v hv]
      exact if_F c0 <| gd_k b1 <| if_F (by rw [z_0]; exact zle_F q (by decide) (by omega)) rfl
    · obtain ⟨b, e1, i1, i2⟩ := c_uns (N := N) hx h51 m k (v + 1) (by omega)
      refine ⟨b, ?_, fun w u h1 h2 => ?_, i2⟩
      · show b_X1_isUnsettled_2b N (b_X1_isUnsettled_2 N (k + m + 1)) _ _ = _
        unfold b_X1_isUnsettled_2b
        rw [nI_clamp (show v < 2 ^ 31 by omega), h51 v hv]
        refine if_F c0 <| gd_k b1 <| if_T (by rw [z_0]; exact zle_T (by omega) (by omega) (by decide)) <| nm_k ?_
        rw [nI_1]
        exact e1
      · by_cases w2 : u = v
        · rw [w2]
          omega
        · exact i1 w u (by omega) h2
/-- the nearest with too little -/
theorem c_near {N : Nat} {ex : Nat → Int} {s : Bs} (hx : ∀ v, v < 8 → -2000000000 ≤ ex v ∧ ex v ≤ 2000000000) (hs : ∀ v, v < 8 → -7000 ≤ s.1 v ∧ s.1 v ≤ bfI) {σ : Sg} (h51 : ∀ u, u < 8 → ar σ 51 u = zI (ex u)) (hS : CS s σ) : ∀ m k v (b : Option Nat) (d : Int), v + m = 8 → (b = none → d = bfI ∧ ∀ u, u < v → ex u < 0 → bfI ≤ s.1 u) → (∀ t, b = some t → t < 8 ∧ ex t < 0 ∧ s.1 t = d ∧ d < bfI) → ∃ b' : Option Nat, b_X1_nearest_7 N (k + m + 1) (zI (pz b)) (zI d) (nI v) σ = some (zI (pz b'), σ) ∧ (b' = none → ∀ u, u < 8 → ex u < 0 → bfI ≤ s.1 u) ∧ (∀ t, b' = some t → t < 8 ∧ ex t < 0 ∧ s.1 t < bfI)
  | 0, k, v, b, d, h, hb0, hb1 => by
    have e : v = 8 := by omega
    subst e
    refine ⟨b, ?_, fun w => (hb0 w).2, fun t w => ⟨(hb1 t w).1, (hb1 t w).2.1, by have := hb1 t w; omega⟩⟩
    show b_X1_nearest_7b N (b_X1_nearest_7 N k) _ _ _ _ = _
    unfold b_X1_nearest_7b
    exact if_T (of_eq_true (ile_T (Nat.le_refl 8) (by decide))) rfl
  | m + 1, k, v, b, d, h, hb0, hb1 => by
    have hv : v < 8 := by omega
    have c0 : ¬ (8 : Int32) ≤ nI v := of_eq_false (ile_F hv (by decide))
    have b1 : inb (nI v) 8 = true := inb_nI hv (by decide)
    have hxv := hx v hv
    have hsv := hs v hv
    have hd : -7000 ≤ d ∧ d ≤ bfI := by
      cases b with
      | none =>
        have := (hb0 rfl).1
        unfold bfI at *
        omega
      | some t =>
        have h1 := hb1 t rfl
        have h2 := hs t h1.1
        omega
    unfold bfI at hsv
    have hd' : -7000 ≤ d ∧ d ≤ 1000000000 := hd
    have sk : (ex v < 0 → d ≤ s.1 v) → ∃ b' : Option Nat, b_X1_nearest_7 N (k + m + 1) (zI (pz b)) (zI d) (nI (v + 1)) σ = some (zI (pz b'), σ) ∧ (b' = none → ∀ u, u < 8 → ex u < 0 → bfI ≤ s.1 u) ∧ (∀ t, b' = some t → t < 8 ∧ ex t < 0 ∧ s.1 t < bfI) := fun hsk => c_near hx hs h51 hS m k (v + 1) b d (by omega) (fun w => ⟨(hb0 w).1, fun u hu hu2 => by
      by_cases w2 : u = v
      · have := (hb0 w).1
        rw [w2] at hu2 ⊢
        have := hsk hu2
        omega
      · exact (hb0 w).2 u (by omega) hu2⟩) hb1
    show ∃ b', b_X1_nearest_7b N (b_X1_nearest_7 N (k + m + 1)) _ _ _ _ = _ ∧ _
    unfold b_X1_nearest_7b b_X1_nearest_41
    rw [nI_clamp (show v < 2 ^ 31 by omega), h51 v hv, (hS v hv).1]
    by_cases q1 : ex v < 0
    · have c1 : ¬ 0 ≤ zI (ex v) := by rw [z_0]; exact zle_F q1 (by omega) (by decide)
      by_cases q2 : d ≤ s.1 v
      · obtain ⟨b', e', i1, i2⟩ := sk (fun _ => q2)
        refine ⟨b', if_F c0 <| gd_k b1 <| if_F c1 <| gd_k b1 <| if_T (zle_T q2 (by omega) (by omega)) <| nm_k ?_, i1, i2⟩
        rw [nI_1]
        exact e'
      · obtain ⟨b', e', i1, i2⟩ := c_near (N := N) hx hs h51 hS m k (v + 1) (some v) (s.1 v) (by omega) (fun w => by cases w) (fun t w => by cases w; exact ⟨hv, q1, rfl, by unfold bfI; omega⟩)
        refine ⟨b', if_F c0 <| gd_k b1 <| if_F c1 <| gd_k b1 <| if_F (zle_F (by omega) (by omega) (by omega)) <| gd_k b1 <| nm_k <| nm_k ?_, i1, i2⟩
        rw [nI_1, ← e', show nI v = zI (pz (some v)) from nI_z v]
    · have c1 : 0 ≤ zI (ex v) := by rw [z_0]; exact zle_T (by omega) (by decide) (by omega)
      obtain ⟨b', e', i1, i2⟩ := sk (fun w => absurd w q1)
      refine ⟨b', if_F c0 <| gd_k b1 <| if_T c1 <| nm_k ?_, i1, i2⟩
      rw [nI_1]
      exact e'
end CS2
