/-! the model's looks -/
def SK (σ : Sg) : List Bool → Prop
  | [] => True
  | b :: s => ar σ 64 s.length = nI b.toNat ∧ SK σ s
theorem SK.sar {σ : Sg} {i : Nat} {v : Int32} : ∀ {s : List Bool}, SK σ s → s.length ≤ i → SK (sar σ 64 i v) s
  | [], _, _ => trivial
  | b :: s, h, hi => by
    have hlen : (b :: s).length = s.length + 1 := rfl
    rw [hlen] at hi
    exact ⟨(ar_s1 (by omega)).trans h.1, SK.sar h.2 (by omega)⟩
/-- nothing else than row 64 has changed -/
def O64 (σ σ' : Sg) : Prop := rg σ' = rg σ ∧ al σ' = al σ ∧ ∀ k, k ≠ 64 → ar σ' k = ar σ k
theorem O64.rf (σ : Sg) : O64 σ σ := ⟨rfl, rfl, fun _ _ => rfl⟩
theorem O64.tr {a b c : Sg} (h : O64 a b) (g : O64 b c) : O64 a c := ⟨g.1.trans h.1, g.2.1.trans h.2.1, fun k hk => (g.2.2 k hk).trans (h.2.2 k hk)⟩
theorem O64.sar (a : Sg) (j : Nat) (v : Int32) : O64 a (sar a 64 j v) := ⟨rfl, rfl, fun k hk => ar_sar_ne hk⟩
theorem nar_0 : vp_nar .boolean (0 : Int32) = nI false.toNat := rfl
theorem nar_1 : vp_nar .boolean (1 : Int32) = nI true.toNat := rfl
theorem x_240 {N d i : Nat} {k : Int32 → Int32 → Int32 → Int32 → Sg → Option Sg} {x y : Int32} {σ : Sg} (b : Bool) (s : Int32) (hs : vp_nar .boolean s = nI b.toNat) (hd : d < 16) : b_X7_looks_240 N k x y (nI d) (nI i) (nI d) s σ = k x y (nI (d + 1)) (nI (i + 1)) (sar σ 64 d (nI b.toNat)) := by
  unfold b_X7_looks_240 b_X7_looks_482
  refine gd_k (inb_nI (by omega) (by decide)) ?_
  rw [nI_clamp (by omega), hs, l_1, nI_add, nI_add]
  rfl
theorem x_278 {N d j i : Nat} {k : Int32 → Int32 → Int32 → Int32 → Sg → Option Sg} {x y : Int32} {σ : Sg} (b : Bool) (s : Int32) (hs : vp_nar .boolean s = nI b.toNat) (hd : j < 16) : b_X7_looks_278 N k x y (nI d) (nI i) (nI j) s σ = k x y (nI d) (nI (i + 1)) (sar σ 64 j (nI b.toNat)) := by
  unfold b_X7_looks_278 b_X7_looks_482
  refine gd_k (inb_nI (by omega) (by decide)) ?_
  rw [nI_clamp (by omega), hs, l_1, nI_add]
  rfl
theorem x_364 {N d j i : Nat} {k : Int32 → Int32 → Int32 → Int32 → Sg → Option Sg} {x y : Int32} {σ : Sg} (b : Bool) (s : Int32) (hs : vp_nar .boolean s = nI b.toNat) (hd : j < 16) : b_X7_looks_364 N k x y (nI d) (nI i) (nI j) s σ = k x y (nI d) (nI (i + 1)) (sar σ 64 j (nI b.toNat)) := by
  unfold b_X7_looks_364 b_X7_looks_482
  refine gd_k (inb_nI (by omega) (by decide)) ?_
  rw [nI_clamp (by omega), hs, l_1, nI_add]
  rfl
theorem x_stp7 {N : Nat} {F : Nat → Nat} {σ : Sg} (hF : ∀ i, i < 5 → ar σ 63 i = nI (F i) ∧ F i < 2 ^ 31) {c i B M : Nat} {st : List Bool} (k : Int32 → Int32 → Int32 → Int32 → Sg → Option Sg) (hi : i < B + M) (hBM : B + M ≤ 906) (hc : ar σ 61 i = cm1 c) (h : cok c st.length) (h16 : st.length ≤ 16) (hK : SK σ st) : ∃ σ', b_X7_looks_131b N k (nI M) (nI B) (nI st.length) (nI i) σ = k (nI M) (nI B) (nI (stp F c st).length) (nI (i + 1)) σ' ∧ SK σ' (stp F c st) ∧ O64 σ σ' := by
  unfold b_X7_looks_131b
  rcases h with ⟨h1, h2⟩ | ⟨rfl, h2⟩ | ⟨h1, h2⟩
  · have e1 : cm1 c = nI (c / 300 + 8 * (c / 100 % 3) + 32 * (c % 100)) := by
      unfold cm1
      rw [if_neg (by omega), if_neg (by omega), if_neg (by omega)]
    have e2 : stp F c st = tst F c :: st := if_pos h1
    have hq : c / 300 < 5 := by omega
    obtain ⟨f1, f2⟩ := hF (c / 300) hq
    have g1 : (c / 300 + 8 * (c / 100 % 3) + 32 * (c % 100)) % 8 = c / 300 := by omega
    have g2 : (c / 300 + 8 * (c / 100 % 3) + 32 * (c % 100)) / 8 % 4 = c / 100 % 3 := by omega
    have g3 : (c / 300 + 8 * (c / 100 % 3) + 32 * (c % 100)) / 32 = c % 100 := by omega
    have hm : c / 300 + 8 * (c / 100 % 3) + 32 * (c % 100) < 2 ^ 31 := by omega
    rw [e2]
    refine ⟨sar σ 64 st.length (nI (tst F c).toNat), ?_, ⟨ar_s2 ⟨rfl, rfl⟩, hK.sar (Nat.le_refl _)⟩, O64.sar _ _ _⟩
    refine if_F ?_ (gd_k (inb_nI (by omega) (by decide)) (nm_k ?_))
    · rw [nI_add]
      exact of_eq_false (ile_F hi (by omega))
    rw [nI_clamp (by omega), hc, e1, l_8, l_4, l_32, pk_rem hm (by decide) (by decide), pk_div hm (by decide) (by decide), pk_rem (by omega) (by decide) (by decide), pk_div hm (by decide) (by decide), g1, g2, g3, nI_clamp (by omega), f1]
    refine if_F (of_eq_false (ilt_F (Nat.zero_le _) hm)) (gd_k (inb_nI hq (by decide)) (nm_k (nm_k (nm_k ?_))))
    show _ = k (nI M) (nI B) (nI (st.length + 1)) (nI (i + 1)) _
    unfold tst
    by_cases h0 : c / 100 % 3 = 0
    · rw [if_pos h0]
      refine if_T (by rw [h0]; rfl) ?_
      by_cases h : F (c / 300) < c % 100
      · rw [decide_eq_true h]
        exact if_F (of_eq_false (ile_F h (by omega))) (x_240 true _ nar_1 h2)
      · rw [decide_eq_false h]
        exact if_T (of_eq_true (ile_T (Nat.le_of_not_lt h) f2)) (x_240 false _ nar_0 h2)
    · rw [if_neg h0]
      refine if_F (of_eq_false (ieq_F h0 (by omega) (by decide))) ?_
      by_cases h1 : c / 100 % 3 = 1
      · rw [if_pos h1]
        refine if_T (by rw [h1]; rfl) ?_
        by_cases h : F (c / 300) = c % 100
        · rw [decide_eq_true h]
          exact if_T (by rw [h]) (x_240 true _ nar_1 h2)
        · rw [decide_eq_false h]
          exact if_F (of_eq_false (ieq_F h f2 (by omega))) (x_240 false _ nar_0 h2)
      · rw [if_neg h1]
        refine if_F (of_eq_false (ieq_F h1 (by omega) (by decide))) ?_
        by_cases h : c % 100 < F (c / 300)
        · rw [decide_eq_true h]
          exact if_F (of_eq_false (ile_F h f2)) (x_240 true _ nar_1 h2)
        · rw [decide_eq_false h]
          exact if_T (of_eq_true (ile_T (Nat.le_of_not_lt h) (by omega))) (x_240 false _ nar_0 h2)
  · match st, h2, h16, hK with
    | b :: s, _, h16, hK =>
      have hlen : (b :: s).length = s.length + 1 := rfl
      rw [hlen] at h16 ⊢
      refine ⟨sar σ 64 s.length (nI (!b).toNat), ?_, ⟨ar_s2 ⟨rfl, rfl⟩, hK.2.sar (Nat.le_refl _)⟩, O64.sar _ _ _⟩
      refine if_F ?_ (gd_k (inb_nI (by omega) (by decide)) (nm_k ?_))
      · rw [nI_add]
        exact of_eq_false (ile_F hi (by omega))
      rw [nI_clamp (by omega), hc]
      refine if_T (by decide) (if_T rfl ?_)
      rw [l_1, pk_sub (by omega), Nat.add_sub_cancel, nI_clamp (by omega), hK.1]
      refine gd_k (inb_nI (by omega) (by decide)) ?_
      show _ = k (nI M) (nI B) (nI (s.length + 1)) (nI (i + 1)) _
      cases b
      · exact if_T rfl (x_278 true _ nar_1 (by omega))
      · exact if_F (by decide) (x_278 false _ nar_0 (by omega))
  · match st, h2, h16, hK with
    | b :: a :: s, _, h16, hK =>
      have hlen : (b :: a :: s).length = s.length + 1 + 1 := rfl
      rw [hlen] at h16 ⊢
      have k1 : ar σ 64 (s.length + 1) = nI b.toNat := hK.1
      have k2 : ar σ 64 s.length = nI a.toNat := hK.2.1
      rcases h1 with rfl | rfl
      · refine ⟨sar σ 64 s.length (nI (a && b).toNat), ?_, ⟨ar_s2 ⟨rfl, rfl⟩, hK.2.2.sar (Nat.le_refl _)⟩, O64.sar _ _ _⟩
        refine if_F ?_ (gd_k (inb_nI (by omega) (by decide)) (nm_k ?_))
        · rw [nI_add]
          exact of_eq_false (ile_F hi (by omega))
        rw [nI_clamp (by omega), hc]
        refine if_T (by decide) (if_F (by decide) (if_F (by decide) (nm_k (if_T rfl ?_))))
        rw [pk_m1, l_1, pk_sub (by omega : 1 ≤ s.length + 1), Nat.add_sub_cancel, nI_clamp (by omega), nI_clamp (by omega), k1, k2]
        refine gd_k (inb_nI (by omega) (by decide)) ?_
        show _ = k (nI M) (nI B) (nI (s.length + 1)) (nI (i + 1)) _
        cases a
        · refine if_T rfl ?_
          unfold b_X7_looks_333
          exact x_364 false _ nar_0 (by omega)
        · refine if_F (by decide) (gd_k (inb_nI (by omega) (by decide)) ?_)
          cases b
          · refine if_T rfl ?_
            unfold b_X7_looks_333
            exact x_364 false _ nar_0 (by omega)
          · exact if_F (by decide) (x_364 true _ nar_1 (by omega))
      · refine ⟨sar σ 64 s.length (nI (a || b).toNat), ?_, ⟨ar_s2 ⟨rfl, rfl⟩, hK.2.2.sar (Nat.le_refl _)⟩, O64.sar _ _ _⟩
        refine if_F ?_ (gd_k (inb_nI (by omega) (by decide)) (nm_k ?_))
        · rw [nI_add]
          exact of_eq_false (ile_F hi (by omega))
        rw [nI_clamp (by omega), hc]
        refine if_T (by decide) (if_F (by decide) (if_F (by decide) (nm_k (if_F (by decide) ?_))))
        rw [pk_m1, l_1, pk_sub (by omega : 1 ≤ s.length + 1), Nat.add_sub_cancel, nI_clamp (by omega), nI_clamp (by omega), k1, k2]
        refine gd_k (inb_nI (by omega) (by decide)) ?_
        show _ = k (nI M) (nI B) (nI (s.length + 1)) (nI (i + 1)) _
        cases a
        · refine if_T rfl (gd_k (inb_nI (by omega) (by decide)) ?_)
          cases b
          · exact if_T rfl (x_364 false _ nar_0 (by omega))
          · refine if_F (by decide) ?_
            unfold b_X7_looks_359
            exact x_364 true _ nar_1 (by omega)
        · refine if_F (by decide) ?_
          unfold b_X7_looks_359
          exact x_364 true _ nar_1 (by omega)
theorem x_codes7 {N : Nat} {F : Nat → Nat} {B M : Nat} (hBM : B + M ≤ 906) {e : Nat} : ∀ (l : List Nat) (st : List Bool) (i n : Nat) (σ : Sg), (∀ i, i < 5 → ar σ 63 i = nI (F i) ∧ F i < 2 ^ 31) → i + l.length ≤ B + M → cdep l st.length = some e → st.length ≤ 16 → (∀ j, j < l.length → ar σ 61 (i + j) = cm1 (l.getD j 0)) → SK σ st → ∃ σ', b_X7_looks_131 N (n + l.length) (nI M) (nI B) (nI st.length) (nI i) σ = b_X7_looks_131 N n (nI M) (nI B) (nI (evs F l st).length) (nI (i + l.length)) σ' ∧ SK σ' (evs F l st) ∧ O64 σ σ'
  | [], st, i, n, σ, hF, hi, hc, h16, hl, hK => ⟨σ, rfl, hK, O64.rf σ⟩
  | c :: l, st, i, n, σ, hF, hi, hc, h16, hl, hK => by
    obtain ⟨h1, h2⟩ := cdep_cons hc
    have hlen : (c :: l).length = l.length + 1 := rfl
    rw [hlen] at hi
    obtain ⟨σ1, e1, k1, o1⟩ := x_stp7 (N := N) hF (b_X7_looks_131 N (n + l.length)) (c := c) (i := i) (B := B) (M := M) (st := st) (by omega) hBM (hl 0 (by rw [hlen]; omega)) h1 h16 hK
    obtain ⟨σ2, e2, k2, o2⟩ := x_codes7 (N := N) hBM l (stp F c st) (i + 1) n σ1 (fun i hi => by rw [o1.2.2 63 (by decide)]; exact hF i hi) (by omega) (by rw [stp_len h1]; exact h2) (by rw [stp_len h1]; exact cnx_16 h1 h16) (fun j hj => by
      have := hl (j + 1) (by rw [hlen]; omega)
      rw [o1.2.2 61 (by decide), show i + 1 + j = i + (j + 1) by omega]
      exact this) k1
    refine ⟨σ2, ?_, k2, o1.tr o2⟩
    rw [hlen, show i + (l.length + 1) = i + 1 + l.length by omega]
    exact e1.trans e2
/-- what a clause's end adds -/
theorem wd_0 : ∀ n, n < 100 → (wdM 0 - nI n < 0) ∧ ¬ (wdM 0 - nI n = -1) ∧ (wdM 0 - nI n ≤ -10) ∧ ¬ (wdM 0 - nI n ≤ -200) ∧ (-200 < wdM 0 - nI n) ∧ (-400 < wdM 0 - nI n) ∧ (-10) - (wdM 0 - nI n) = nI n := by decide +kernel
theorem wd_1 : ∀ n, n < 100 → (wdM 1 - nI n < 0) ∧ ¬ (wdM 1 - nI n = -1) ∧ (wdM 1 - nI n ≤ -10) ∧ (wdM 1 - nI n ≤ -200) ∧ ¬ (-200 < wdM 1 - nI n) ∧ ¬ (wdM 1 - nI n ≤ -400) ∧ (-400 < wdM 1 - nI n) ∧ (-200) - (wdM 1 - nI n) = nI n := by decide +kernel
theorem wd_2 : ∀ n, n < 100 → (wdM 2 - nI n < 0) ∧ ¬ (wdM 2 - nI n = -1) ∧ (wdM 2 - nI n ≤ -10) ∧ (wdM 2 - nI n ≤ -200) ∧ ¬ (-200 < wdM 2 - nI n) ∧ (wdM 2 - nI n ≤ -400) ∧ ¬ (-400 < wdM 2 - nI n) ∧ (-400) - (wdM 2 - nI n) = nI n := by decide +kernel
/-- nothing else than rows 63, 64 and the three sums has changed -/
def OL (σ σ' : Sg) : Prop := (∀ k j, ¬ (k = 60 ∧ 11 ≤ j ∧ j ≤ 13) → rg σ' k j = rg σ k j) ∧ al σ' = al σ ∧ ∀ k, k ≠ 63 → k ≠ 64 → ar σ' k = ar σ k
theorem OL.rf (σ : Sg) : OL σ σ := ⟨fun _ _ _ => rfl, rfl, fun _ _ _ => rfl⟩
theorem OL.tr {a b c : Sg} (h : OL a b) (g : OL b c) : OL a c := ⟨fun k j q => (g.1 k j q).trans (h.1 k j q), g.2.1.trans h.2.1, fun k h1 h2 => (g.2.2 k h1 h2).trans (h.2.2 k h1 h2)⟩
theorem OL.sm {a b : Sg} (h : OL a b) : Sm a b := ⟨fun k j q => h.1 k j (fun ⟨h1, h2⟩ => by
  unfold cR at q
  have := of_decide_eq_true q
  omega), fun k hk => h.2.2 k (fun q => by subst q; cases hk) (fun q => by subst q; cases hk)⟩
theorem O64.ol {a b : Sg} (h : O64 a b) : OL a b := ⟨fun k j _ => by rw [h.1], h.2.1, fun k _ h2 => h.2.2 k h2⟩
theorem RM.ol {A : Ab} {σ σ' : Sg} (h : RM 61 A σ) (g : OL σ σ') : RM 61 A σ' := h.same (g.2.2 61 (by decide) (by decide))
def cad (w v : Nat) (b : Bool) (n s : Nat) : Nat := if v = w ∧ b = true then s + n else s
theorem x_end7 {N : Nat} {σ : Sg} {w n i B M d a0 a1 a2 : Nat} {b : Bool} (k : Int32 → Int32 → Int32 → Int32 → Sg → Option Sg) (hi : i < B + M) (hBM : B + M ≤ 906) (hw : w < 3) (hn : n < 100) (hc : ar σ 61 i = wdM w - nI n) (hK : ar σ 64 0 = nI b.toNat) (s0 : rg σ 60 11 = nI a0) (s1 : rg σ 60 12 = nI a1) (s2 : rg σ 60 13 = nI a2) : ∃ σ', b_X7_looks_131b N k (nI M) (nI B) (nI d) (nI i) σ = k (nI M) (nI B) (nI 0) (nI (i + 1)) σ' ∧ rg σ' 60 11 = nI (cad 0 w b n a0) ∧ rg σ' 60 12 = nI (cad 1 w b n a1) ∧ rg σ' 60 13 = nI (cad 2 w b n a2) ∧ ar σ' = ar σ ∧ al σ' = al σ ∧ ∀ k j, ¬ (k = 60 ∧ 11 ≤ j ∧ j ≤ 13) → rg σ' k j = rg σ k j := by
  have hrg : ∀ u0 u1 u2 : Int32, ∀ k j, ¬ (k = 60 ∧ 11 ≤ j ∧ j ≤ 13) → rg (srg (srg (srg σ 60 11 u0) 60 12 u1) 60 13 u2) k j = rg σ k j := fun u0 u1 u2 k j h => by rw [rg_s1 (by omega), rg_s1 (by omega), rg_s1 (by omega)]
  refine ⟨srg (srg (srg σ 60 11 (nI (cad 0 w b n a0))) 60 12 (nI (cad 1 w b n a1))) 60 13 (nI (cad 2 w b n a2)), ?_, rfl, rfl, rfl, rfl, rfl, hrg _ _ _⟩
  unfold b_X7_looks_131b b_X7_looks_405 b_X7_looks_406 b_X7_looks_445 b_X7_looks_446 b_X7_looks_477 b_X7_looks_478 b_X7_looks_482
  refine if_F ?_ (gd_k (inb_nI (by omega) (by decide)) ?_)
  · rw [nI_add]
    exact of_eq_false (ile_F hi (by omega))
  rw [nI_clamp (by omega), hc, s0, show ar σ 64 (0 : Int32).toNatClampNeg = nI b.toNat from hK]
  have e1 : ∀ x, rg (srg σ 60 11 x) 60 12 = nI a1 := fun x => (rg_s1 (by omega)).trans s1
  have e2 : ∀ x y, rg (srg (srg σ 60 11 x) 60 12 y) 60 13 = nI a2 := fun x y => ((rg_s1 (by omega)).trans (rg_s1 (by omega))).trans s2
  have ez : ∀ a : Nat, nI a + (0 : Int32) = nI a := fun a => by rw [l_0, nI_add]; rfl
  rcases (show w = 0 ∨ w = 1 ∨ w = 2 by omega) with rfl | rfl | rfl
  · obtain ⟨g1, g2, g3, g4, g5, g6, g7⟩ := wd_0 n hn
    refine nm_k (if_T g1 (if_F g2 (if_T g3 (gd_k rfl (nm_k ?_)))))
    cases b
    · refine if_T rfl (nm_k (if_T rfl ?_))
      rw [e1]
      refine nm_k (if_T rfl ?_)
      rw [e2]
      refine nm_k (nm_k ?_)
      rw [ez, ez, ez, l_1, nI_add]
      rfl
    · refine if_F (by decide) (if_F g4 (nm_k (if_F (by decide) (if_T g5 ?_))))
      rw [e1]
      refine nm_k (if_F (by decide) (if_T g6 ?_))
      rw [e2]
      refine nm_k (nm_k ?_)
      rw [g7, nI_add, ez, ez, l_1, nI_add]
      rfl
  · obtain ⟨g1, g2, g3, g4, g5, g6, g7, g8⟩ := wd_1 n hn
    refine nm_k (if_T g1 (if_F g2 (if_T g3 (gd_k rfl (nm_k ?_)))))
    cases b
    · refine if_T rfl (nm_k (if_T rfl ?_))
      rw [e1]
      refine nm_k (if_T rfl ?_)
      rw [e2]
      refine nm_k (nm_k ?_)
      rw [ez, ez, ez, l_1, nI_add]
      rfl
    · refine if_F (by decide) (if_T g4 (nm_k (if_F (by decide) (if_F g5 (if_F g6 ?_)))))
      rw [e1]
      refine nm_k (if_F (by decide) (if_T g7 ?_))
      rw [e2]
      refine nm_k (nm_k ?_)
      rw [g8, nI_add, ez, ez, l_1, nI_add]
      rfl
  · obtain ⟨g1, g2, g3, g4, g5, g6, g7, g8⟩ := wd_2 n hn
    refine nm_k (if_T g1 (if_F g2 (if_T g3 (gd_k rfl (nm_k ?_)))))
    cases b
    · refine if_T rfl (nm_k (if_T rfl ?_))
      rw [e1]
      refine nm_k (if_T rfl ?_)
      rw [e2]
      refine nm_k (nm_k ?_)
      rw [ez, ez, ez, l_1, nI_add]
      rfl
    · refine if_F (by decide) (if_T g4 (nm_k (if_F (by decide) (if_F g5 (if_T g6 ?_)))))
      rw [e1]
      refine nm_k (if_F (by decide) (if_F g7 ?_))
      rw [e2]
      refine nm_k (nm_k ?_)
      rw [g8, nI_add, ez, ez, l_1, nI_add]
      rfl
theorem gDm_mid (a b c : List Int32) (j : Nat) (h : j < b.length) : (a ++ b ++ c).getD (a.length + j) 0 = b.getD j 0 := by
  rw [List.append_assoc, List.getD_eq_getElem?_getD, List.getElem?_append_right (by omega), Nat.add_sub_cancel_left, List.getElem?_append_left h, ← List.getD_eq_getElem?_getD]
theorem gDm_map (l : List Nat) (y : Int32) (j : Nat) (h : j < l.length) : (l.map cm1 ++ [y]).getD j 0 = cm1 (l.getD j 0) := by
  rw [List.getD_eq_getElem?_getD, List.getElem?_append_left (by rw [List.length_map]; exact h), List.getElem?_map, List.getD_eq_getElem?_getD, List.getElem?_eq_getElem h]
  rfl
theorem twM_app (a b : Tw) : twM (a ++ b) = twM a ++ twM b := List.flatMap_append
theorem x_look7l {N : Nat} {F : Nat → Nat} {B : Nat} {t : Tw} (hO : twOK t) (hF2 : ∀ i, i < 5 → F i < 2 ^ 31) (hBM : B + (twM t).length ≤ 906) : ∀ (post pre : Tw) (n a0 a1 a2 : Nat) (σ : Sg), pre ++ post = t → (∀ i, i < 5 → ar σ 63 i = nI (F i)) → (∀ i, i < (twM t).length → ar σ 61 (B + i) = (twM t).getD i 0) → rg σ 60 11 = nI a0 → rg σ 60 12 = nI a1 → rg σ 60 13 = nI a2 → ∃ σ', b_X7_looks_131 N (n + (twM post).length + 1) (nI (twM t).length) (nI B) (nI 0) (nI (B + (twM pre).length)) σ = some σ' ∧ OL σ σ' ∧ rg σ' 60 11 = nI (a0 + tsum F 0 post) ∧ rg σ' 60 12 = nI (a1 + tsum F 1 post) ∧ rg σ' 60 13 = nI (a2 + tsum F 2 post)
  | [], pre, n, a0, a1, a2, σ, ht, hF, hM, s0, s1, s2 => by
    rw [List.append_nil] at ht
    subst ht
    refine ⟨σ, ?_, OL.rf σ, s0, s1, s2⟩
    show b_X7_looks_131b N (b_X7_looks_131 N n) _ _ _ _ _ = _
    unfold b_X7_looks_131b
    refine if_T ?_ rfl
    rw [nI_add]
    exact of_eq_true (ile_T (Nat.le_refl _) (by omega))
  | q :: post, pre, n, a0, a1, a2, σ, ht, hF, hM, s0, s1, s2 => by
    have hmem : q ∈ t := by rw [← ht]; exact List.mem_append_right _ List.mem_cons_self
    obtain ⟨q1, q2, q3⟩ := hO.2.2 q hmem
    have ht2 : pre ++ [q] ++ post = t := by rw [← ht, List.append_assoc]; rfl
    have h1 : twM [q] = q.2.2.map cm1 ++ [wdM q.1 - nI q.2.1] := List.append_nil _
    have hl1 : (twM [q]).length = q.2.2.length + 1 := by rw [h1, List.length_append, List.length_map]; rfl
    have hC : twM t = twM pre ++ twM [q] ++ twM post := by rw [← ht2, twM_app, twM_app]
    have hCl : (twM t).length = (twM pre).length + (q.2.2.length + 1) + (twM post).length := by rw [hC, List.length_append, List.length_append, hl1]
    have hpl : (twM (pre ++ [q])).length = (twM pre).length + (q.2.2.length + 1) := by rw [twM_app, List.length_append, hl1]
    have hpo : (twM (q :: post)).length = q.2.2.length + 1 + (twM post).length := by
      show (twM ([q] ++ post)).length = _
      rw [twM_app, List.length_append, hl1]
    have hg : ∀ j, j < q.2.2.length + 1 → ar σ 61 (B + (twM pre).length + j) = (twM [q]).getD j 0 := fun j hj => by
      rw [Nat.add_assoc, hM _ (by omega), hC, gDm_mid _ _ _ _ (by omega)]
    obtain ⟨σ1, e1, k1, o1⟩ := x_codes7 (N := N) (F := F) (B := B) (M := (twM t).length) hBM q.2.2 [] (B + (twM pre).length) (n + (twM post).length + 1 + 1) σ (fun i hi => ⟨hF i hi, hF2 i hi⟩) (by omega) q3 (Nat.zero_le _) (fun j hj => by rw [hg j (by omega), h1, gDm_map _ _ _ hj]) trivial
    have hev : (evs F q.2.2 []).length = 1 := evs_len q.2.2 [] q3
    have hb : ∃ b, evs F q.2.2 [] = [b] := by
      match evs F q.2.2 [], hev with
      | [b], _ => exact ⟨b, rfl⟩
    obtain ⟨b, hb⟩ := hb
    rw [hb] at e1 k1
    have hgl := hg q.2.2.length (by omega)
    have hgd : (twM [q]).getD q.2.2.length 0 = wdM q.1 - nI q.2.1 := by
      rw [h1]
      have := getD_app (q.2.2.map cm1) [] (wdM q.1 - nI q.2.1) 0
      rw [List.length_map] at this
      exact this
    rw [hgd] at hgl
    obtain ⟨σ2, e2, v0, v1, v2, p1, p2, p3⟩ := x_end7 (N := N) (σ := σ1) (w := q.1) (n := q.2.1) (i := B + (twM pre).length + q.2.2.length) (B := B) (M := (twM t).length) (d := 1) (a0 := a0) (a1 := a1) (a2 := a2) (b := b) (b_X7_looks_131 N (n + (twM post).length + 1)) (by omega) hBM q1 q2 (by rw [o1.2.2 61 (by decide)]; exact hgl) k1.1 (by rw [o1.1]; exact s0) (by rw [o1.1]; exact s1) (by rw [o1.1]; exact s2)
    have ol2 : OL σ1 σ2 := ⟨p3, p2, fun k _ _ => by rw [p1]⟩
    have ol : OL σ σ2 := o1.ol.tr ol2
    obtain ⟨σ3, e3, o3, z0, z1, z2⟩ := x_look7l (N := N) hO hF2 hBM post (pre ++ [q]) n _ _ _ σ2 ht2 (fun i hi => by rw [p1, o1.2.2 63 (by decide)]; exact hF i hi) (fun i hi => by rw [p1, o1.2.2 61 (by decide)]; exact hM i hi) v0 v1 v2
    refine ⟨σ3, ?_, ol.tr o3, ?_, ?_, ?_⟩
    · rw [hpo, show n + (q.2.2.length + 1 + (twM post).length) + 1 = n + (twM post).length + 1 + 1 + q.2.2.length by omega]
      refine e1.trans ?_
      show b_X7_looks_131b N (b_X7_looks_131 N (n + (twM post).length + 1)) _ _ _ _ _ = _
      refine e2.trans ?_
      rw [show B + (twM pre).length + q.2.2.length + 1 = B + (twM (pre ++ [q])).length by omega]
      exact e3
    · rw [z0]
      congr 1
      show _ = a0 + ((if q.1 = 0 ∧ (evs F q.2.2 []).headD false = true then q.2.1 else 0) + tsum F 0 post)
      rw [hb]
      show cad 0 q.1 b q.2.1 a0 + _ = a0 + ((if q.1 = 0 ∧ b = true then q.2.1 else 0) + tsum F 0 post)
      unfold cad
      split <;> omega
    · rw [z1]
      congr 1
      show _ = a1 + ((if q.1 = 1 ∧ (evs F q.2.2 []).headD false = true then q.2.1 else 0) + tsum F 1 post)
      rw [hb]
      show cad 1 q.1 b q.2.1 a1 + _ = a1 + ((if q.1 = 1 ∧ b = true then q.2.1 else 0) + tsum F 1 post)
      unfold cad
      split <;> omega
    · rw [z2]
      congr 1
      show _ = a2 + ((if q.1 = 2 ∧ (evs F q.2.2 []).headD false = true then q.2.1 else 0) + tsum F 2 post)
      rw [hb]
      show cad 2 q.1 b q.2.1 a2 + _ = a2 + ((if q.1 = 2 ∧ b = true then q.2.1 else 0) + tsum F 2 post)
      unfold cad
      split <;> omega
theorem x_size7 {N : Nat} {σ : Sg} {a b : Nat} (ha : a ≤ 9999) (hb : b ≤ 9999) : f_X7_size N (nI a - nI b) σ = some (nI ((a - b) + (b - a)), σ) := by
  unfold f_X7_size
  have h := pk_sub_toInt (a := a) (b := b) (by omega) (by omega)
  by_cases hab : b ≤ a
  · rw [pk_sub hab]
    refine if_T (of_eq_true (ile_T (Nat.zero_le _) (by omega))) ?_
    rw [show b - a = 0 by omega]
    rfl
  · refine if_F (fun q => ?_) ?_
    · have := Int32.le_iff_toInt_le.mp q
      rw [h] at this
      have h0 : (0 : Int32).toInt = 0 := by decide
      omega
    · rw [Int32.neg_sub, pk_sub (by omega), show a - b = 0 by omega, Nat.zero_add]
theorem x_uneven7 {N : Nat} {σ : Sg} {A : Ab} (hA : AOK A) (hM : RM 61 A σ) {k : Nat} (hk : k < aS A) : f_X7_uneven N (nI k) σ = some (nI (ii A k) - nI (oo A k), σ) := by
  have hS7 := hA.1.1
  obtain ⟨d1, d2, d3, d4, d5⟩ := hM.2.1 k hk
  unfold f_X7_uneven
  rw [l_24, l_31, nI_add, nI_add]
  refine gd_k (inb_nI (by omega) (by decide)) (gd_k (inb_nI (by omega) (by decide)) ?_)
  rw [nI_clamp (by omega), nI_clamp (by omega), d3, d4]
theorem x_look7 {N : Nat} {σ : Sg} {A : Ab} (hA : AOK A) (hM : RM 61 A σ) {k : Nat} (hk : k < aS A) : ∃ σ', f_X7_looks (N + 200) (nI k) σ = some σ' ∧ OL σ σ' ∧ rg σ' 60 11 = nI (tsum (fct A k) 0 (tw A)) ∧ rg σ' 60 12 = nI (tsum (fct A k) 1 (tw A)) ∧ rg σ' 60 13 = nI (tsum (fct A k) 2 (tw A)) := by
  have hlt := fun i => fct_lt hA hk i
  have hA' := hA
  obtain ⟨⟨hS7, hD99, hT100, hW5, hZ7⟩, hAS, hAT, hAZ, hAW, hAW0⟩ := hA
  obtain ⟨p1, p2, p3, p4, p5, p6⟩ := hAS k hk
  obtain ⟨⟨m1, m2, m3, m4, m5, m6⟩, mS, mT, mZ, mW⟩ := id hM
  obtain ⟨d1, d2, d3, d4, d5⟩ := mS k hk
  let s1 := sar σ 63 0 (nI k)
  let s2 := sar s1 63 1 (nI (kd A k))
  let s3 := sar s2 63 2 (nI (un A k))
  let s4 := sar s3 63 3 (nI (aD A % 7))
  let s5 := sar s4 63 4 (nI (popc (ld A k)))
  let s6 := srg (srg (srg s5 60 11 (nI 0)) 60 12 (nI 0)) 60 13 (nI 0)
  have o2 : OL σ s2 := ⟨fun _ _ _ => rfl, rfl, fun k h1 h2 => by rw [ar_sar_ne h1, ar_sar_ne h1]⟩
  have o4 : OL σ s4 := ⟨fun _ _ _ => rfl, rfl, fun k h1 h2 => by rw [ar_sar_ne h1, ar_sar_ne h1, ar_sar_ne h1, ar_sar_ne h1]⟩
  have o6 : OL σ s6 := ⟨fun k j h => by rw [rg_s1 (by omega), rg_s1 (by omega), rg_s1 (by omega)]; rfl, rfl, fun k h1 h2 => by rw [ar_srg, ar_srg, ar_srg, ar_sar_ne h1, ar_sar_ne h1, ar_sar_ne h1, ar_sar_ne h1, ar_sar_ne h1]⟩
  have hM6 := hM.ol o6
  have hF : ∀ i, i < 5 → ar s6 63 i = nI (fct A k i) := by
    intro i hi
    match i, hi with
    | 0, _ => rfl
    | 1, _ => rfl
    | 2, _ => rfl
    | 3, _ => rfl
    | 4, _ => rfl
    | i + 5, h => exact absurd h (by omega)
  have key : ∀ r : Option Sg, r = f_X7_looks (N + 200) (nI k) σ → r = (gd (inb (4 : Int32) 906) (if (ar s6 61 4) = (-1 : Int32) then (b_X7_looks_109 (N + 200) (0 : Int32) s6) else (gd (inb (4 : Int32) 906) (gd (inb ((201 : Int32) + (ar s6 61 4)) 906) (b_X7_looks_109 (N + 200) (ar s6 61 ((201 : Int32) + (ar s6 61 4)).toNatClampNeg) s6))))) := by
    intro r hr
    rw [hr]
    unfold f_X7_looks
    refine gd_k rfl (nm_k (gd_k ?_ (gd_k rfl (nm_k ?_))))
    · rw [l_10, nI_add]
      exact inb_nI (by omega) (by decide)
    rw [l_10, nI_add, nI_clamp (by omega)]
    rw [show ar (sar σ 63 (0 : Int32).toNatClampNeg (nI k)) 61 (10 + k) = nI (kd A k) from d1]
    refine bd2_k (x_uneven7 hA' (hM.ol o2) hk) (bd2_k (x_size7 p3 p4) (gd_k rfl (nm_k (gd_k rfl (gd_k rfl ?_)))))
    rw [show ar (sar s2 63 (2 : Int32).toNatClampNeg (nI (ii A k - oo A k + (oo A k - ii A k)))) 61 (5 : Int32).toNatClampNeg = nI (aD A) from m2, l_7, pk_rem (by omega) (by omega) (by omega)]
    refine nm_k (bd2_k (x_leads7 (N := N + 192) hA' (hM.ol o4) hk) (bd2_k (x_count1 (N := N + 192) (p2_le hS7 p5)) (gd_k rfl rfl)))
  rw [key _ rfl]
  have m6' : ar s6 61 4 = nI (aW A) - 1 := m6
  by_cases hW : aW A = 0
  · have htw := hAW0 hW
    rw [m6', hW, htw]
    refine ⟨s6, gd_k rfl (if_T (by decide) ?_), o6, rfl, rfl, rfl⟩
    unfold b_X7_looks_109
    refine gd_k rfl (nm_k ?_)
    rw [show ar s6 61 (4 : Int32).toNatClampNeg = nI (aW A) - 1 from m6, hW]
    show b_X7_looks_131b (N + 200) (b_X7_looks_131 (N + 200) (N + 199)) _ _ _ _ _ = _
    unfold b_X7_looks_131b
    exact if_T (by decide) rfl
  · have hW0 : 0 < aW A := by omega
    obtain ⟨w1, w2⟩ := mW hW0
    have em : nI (aW A) - 1 = nI (aW A - 1) := by rw [l_1, pk_sub hW0]
    have hl := twM_len (tw A)
    obtain ⟨t1, t2, t3⟩ := id hAW
    obtain ⟨σ', e1, e2, e3, e4, e5⟩ := x_look7l (N := N + 200) (F := fct A k) (B := 206 + 140 * (aW A - 1)) (t := tw A) hAW (fun i _ => hlt i) (by omega) (tw A) [] (N + 199 - (twM (tw A)).length) 0 0 0 s6 rfl hF (fun i hi => w2 i hi) rfl rfl rfl
    rw [show N + 199 - (twM (tw A)).length + (twM (tw A)).length + 1 = N + 200 by omega] at e1
    rw [Nat.zero_add] at e3 e4 e5
    refine ⟨σ', gd_k rfl (if_F ?_ (gd_k rfl (gd_k ?_ ?_))), o6.tr e2, e3, e4, e5⟩
    · rw [m6', em]
      exact i_nn (by omega) (by decide)
    · rw [m6', em, l_201, nI_add]
      exact inb_nI (by omega) (by decide)
    · rw [m6', em, l_201, nI_add, nI_clamp (by omega)]
      rw [show ar s6 61 (201 + (aW A - 1)) = nI (twM (tw A)).length from w1]
      unfold b_X7_looks_109
      refine gd_k rfl (nm_k ?_)
      rw [show ar s6 61 (4 : Int32).toNatClampNeg = nI (aW A) - 1 from m6, em, l_206, l_140, pk_mul, nI_add]
      exact e1
