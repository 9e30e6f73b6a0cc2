/-! acts -/
def nts (o a j : Nat) : List Int32 → Nat → Sg → Sg
  | [], _, σ => σ
  | b :: l, i, σ => nts o a j l (i + 1) (srg (sar σ a i b) o j (nI (i + 1)))
theorem nts_rg {o a j : Nat} : ∀ (l : List Int32) (i : Nat) (σ : Sg) (k q : Nat), ¬ (k = o ∧ q = j) → rg (nts o a j l i σ) k q = rg σ k q
  | [], _, _, _, _, _ => rfl
  | b :: l, i, σ, k, q, h => by
    show rg (nts o a j l (i + 1) _) k q = _
    rw [nts_rg l (i + 1) _ k q h, rg_s1 h]
    rfl
theorem nts_ar {o a j : Nat} : ∀ (l : List Int32) (i : Nat) (σ : Sg) (k : Nat), k ≠ a → ar (nts o a j l i σ) k = ar σ k
  | [], _, _, _, _ => rfl
  | b :: l, i, σ, k, h => by
    show ar (nts o a j l (i + 1) _) k = _
    rw [nts_ar l (i + 1) _ k h, ar_srg, ar_sar_ne h]
theorem nts_r {o a j : Nat} : ∀ (l : List Int32) (i : Nat) (σ : Sg), rg σ o j = nI i → rg (nts o a j l i σ) o j = nI (i + l.length)
  | [], _, _, h => h
  | b :: l, i, σ, h => by
    show rg (nts o a j l (i + 1) _) o j = nI (i + (l.length + 1))
    rw [nts_r l (i + 1) _ (rg_s2 ⟨rfl, rfl⟩)]
    congr 1
    omega
theorem nts_lo {o a j : Nat} : ∀ (l : List Int32) (i : Nat) (σ : Sg) (q : Nat), q < i → ar (nts o a j l i σ) a q = ar σ a q
  | [], _, _, _, _ => rfl
  | b :: l, i, σ, q, h => by
    show ar (nts o a j l (i + 1) _) a q = _
    rw [nts_lo l (i + 1) _ q (by omega), ar_srg, ar_s1 (by omega)]
theorem nts_at {o a j : Nat} : ∀ (l : List Int32) (i : Nat) (σ : Sg) (q : Nat), q < l.length → ar (nts o a j l i σ) a (i + q) = l.getD q 0
  | [], _, _, q, h => absurd h (Nat.not_lt_zero q)
  | b :: l, i, σ, 0, h => by
    show ar (nts o a j l (i + 1) _) a (i + 0) = b
    rw [nts_lo l (i + 1) _ _ (by omega), ar_srg, Nat.add_zero, ar_s2 ⟨rfl, rfl⟩]
  | b :: l, i, σ, q + 1, h => by
    show ar (nts o a j l (i + 1) _) a (i + (q + 1)) = l.getD q 0
    rw [show i + (q + 1) = i + 1 + q by omega]
    exact nts_at l (i + 1) _ q (by rw [List.length_cons] at h; omega)
theorem Inv.tr {A : Ab} {σ σ' : Sg} (hI : Inv A σ) (h1 : ∀ k j, k ≠ 9 → k ≠ 60 → rg σ' k j = rg σ k j) (h60 : rg σ' 60 3 = rg σ 60 3) (h2 : ∀ k, k ≠ 59 → k ≠ 82 → ar σ' k = ar σ k) {r : Nat} (hr : r < 2 ^ 20) (g1 : rg σ' 9 0 = nI r) (g2 : rg σ' 60 34 = nI r) (g3 : ∀ i, i < r → i < 20 → ar σ' 59 i = ar σ' 82 i) : Inv A σ' := by
  obtain ⟨hA, hC, hM, hK, -⟩ := hI
  refine ⟨hA, hC.same (fun j => h1 _ _ (by decide) (by decide)) (fun k hk => h2 _ (by omega) (by omega)) (fun j => h1 _ _ (by decide) (by decide)) (fun k hk => h2 _ (by omega) (by omega)), hM.same (h2 _ (by decide) (by decide)), ?_, r, hr, g1, g2, g3⟩
  refine ⟨by rw [h2 38 (by decide) (by decide)]; exact hK.1, ?_⟩
  rw [h1 0 2 (by decide) (by decide), h60]
  rcases hK.2 with h | ⟨a, b, B, c, d, e⟩
  · exact Or.inl h
  · exact Or.inr ⟨a, b, B, c, d.same (fun j => h1 _ _ (by decide) (by decide)) (fun k hk => h2 _ (by omega) (by omega)) (fun j => h1 _ _ (by decide) (by decide)) (fun k hk => h2 _ (by omega) (by omega)), e.same (h2 _ (by decide) (by decide))⟩
def acv (x X V : Int32) : Nat → Nat → Int32
  | 0, 0 => (x + X)
  | 0, 1 => ((x + X) - V)
  | 0, 2 => (((x + X) - V) * 2)
  | 1, 0 => (x * 3 + X)
  | 1, 1 => ((x * 3 + X) - V)
  | 1, 2 => (((x * 3 + X) - V) * 2)
  | 2, 0 => (x + X)
  | 2, 1 => (-((x + X) - V))
  | 2, 2 => ((-((x + X) - V)) * 2)
  | 3, 0 => (x + X)
  | 3, 1 => ((x + X) - V)
  | 3, 2 => ((((x + X) - V) * 2) ^^^ 7)
  | 4, 0 => (x * 3 + X)
  | 4, 1 => ((x * 3 + X) - V)
  | 4, 2 => ((((x - 1) * 3 + X) - V) * 2 + (2 * 3 + X))
  | 5, 0 => ((x + X) ^^^ X)
  | 5, 1 => (-(((x + X) ^^^ X) - V))
  | 5, 2 => ((-(((x + X) ^^^ X) - V)) * 2)
  | 6, 0 => (x + X)
  | 6, 1 => (((x + X) - V) + V)
  | 6, 2 => (((((x + X) - V) + V) * 2) ^^^ 7)
  | _, _ => 0
def act : Nat → Nat → List Int32
  | 0, 0 => [1]
  | 0, 1 => [2, 1]
  | 0, 2 => [3, 2, 1]
  | 1, 0 => [11, 1]
  | 1, 1 => [2, 11, 1]
  | 1, 2 => [3, 2, 11, 1]
  | 2, 0 => [1]
  | 2, 1 => [21, 2, 1]
  | 2, 2 => [3, 21, 2, 1]
  | 3, 0 => [1]
  | 3, 1 => [2, 1]
  | 3, 2 => [31, 3, 2, 1]
  | 4, 0 => [11, 1]
  | 4, 1 => [2, 11, 1]
  | 4, 2 => [41, 3, 2, 11, 1, 11, 1]
  | 5, 0 => [51, 1]
  | 5, 1 => [21, 2, 51, 1]
  | 5, 2 => [3, 21, 2, 51, 1]
  | 6, 0 => [1]
  | 6, 1 => [61, 2, 1]
  | 6, 2 => [31, 3, 61, 2, 1]
  | _, _ => []
theorem x_note6 {N r : Nat} {b : Int32} {σ : Sg} (h : rg σ 9 0 = nI r) (hr : r < 20) : f_X0_note N b σ = some (nts 9 59 0 [b] r σ) := by
  unfold f_X0_note b_X0_note_19
  rw [h]
  refine if_F (of_eq_false (ile_F hr (by decide))) (gd_k (inb_nI hr (by decide)) ?_)
  rw [nI_clamp (by omega)]
  show some (srg (sar σ 59 r b) 9 0 (rg σ 9 0 + 1)) = some (srg (sar σ 59 r b) 9 0 (nI (r + 1)))
  rw [h, l_1, nI_add]
theorem x_f1 {N n t k i : Nat} {kr : Int32 → Int32 → Int32 → Int32 → Sg → Option (Int32 × Sg)} {x dd : Int32} {σ : Sg} (hi : i < 7) (h : k = 0 ∨ (0 < k ∧ k < 7 ∧ t < 3 ∧ ¬ am_bodies (k * 3 + t) = 0)) : b_X0_run_25 N kr (n + 1) (nI t) x dd (nI k) (nI i) σ = b_X0_run_64 N kr (nI t) x dd (nI k) σ := by
  show b_X0_run_25b N kr (b_X0_run_25 N kr n) _ _ _ _ _ _ = _
  unfold b_X0_run_25b
  refine if_F (of_eq_false (ile_F hi (by decide))) ?_
  rcases h with rfl | ⟨h1, h2, h3, h4⟩
  · exact if_T (by decide) rfl
  · refine if_F (of_eq_false (ile_F h1 (by omega))) ?_
    rw [l_3, pk_mul, nI_add]
    refine gd_k (inb_nI (by omega) (by decide)) (if_F ?_ rfl)
    rw [nI_clamp (by omega)]
    exact h4
theorem x_f2 {N n t k i q : Nat} {kr : Int32 → Int32 → Int32 → Int32 → Sg → Option (Int32 × Sg)} {x dd : Int32} {σ : Sg} (hi : i < 7) (h1 : 0 < k) (h2 : k < 7) (h3 : t < 3) (h4 : am_bodies (k * 3 + t) = 0) (h5 : am_above k = nI q) : b_X0_run_25 N kr (n + 1) (nI t) x dd (nI k) (nI i) σ = b_X0_run_25 N kr n (nI t) x dd (nI q) (nI (i + 1)) σ := by
  show b_X0_run_25b N kr (b_X0_run_25 N kr n) _ _ _ _ _ _ = _
  unfold b_X0_run_25b
  refine if_F (of_eq_false (ile_F hi (by decide))) (if_F (of_eq_false (ile_F h1 (by omega))) ?_)
  rw [l_3, pk_mul, nI_add]
  refine gd_k (inb_nI (by omega) (by decide)) (if_T ?_ (gd_k (inb_nI h2 (by decide)) ?_))
  · rw [nI_clamp (by omega)]
    exact h4
  · rw [nI_clamp (by omega), h5, l_1, nI_add]
    rfl
theorem x_runG {N D d k t q : Nat} {body x : Int32} {σ : Sg} (hd : d ≤ 40) (hk : k < 7) (hq : q < 7) (ht : t < 3) (hf : b_X0_run_25 (N + 8) (f_X0_run (N + 8) D) (N + 8) (nI t) x (nI d) (nI k) (nI 0) σ = b_X0_run_64 (N + 8) (f_X0_run (N + 8) D) (nI t) x (nI d) (nI q) σ) (hb : am_bodies (q * 3 + t) = body) : f_X0_run (N + 8) (D + 1) (nI k) (nI t) x (nI d) σ = bd2 (f_X0_runBody (N + 8) (f_X0_run (N + 8) D) body (am_above q) x (nI (d + 1)) σ) fun v s => some (v, s) := by
  show f_X0_run_b (N + 8) (f_X0_run (N + 8) D) _ _ _ _ _ = _
  unfold f_X0_run_b
  refine if_F (of_eq_false (ilt_F (Nat.zero_le _) (by omega))) (if_F (of_eq_false (ile_F hk (by decide))) (if_T (of_eq_true (ile_T hd (by decide))) (hf.trans ?_)))
  unfold b_X0_run_64
  rw [l_3, pk_mul, nI_add]
  refine gd_k (inb_nI (by omega) (by decide)) (gd_k (inb_nI hq (by decide)) ?_)
  rw [nI_clamp (by omega), nI_clamp (by omega), hb, l_1, nI_add]
theorem x_run00 {N D d : Nat} {x : Int32} {σ : Sg} (hd : d ≤ 40) : f_X0_run (N + 8) (D + 1) (nI 0) (nI 0) x (nI d) σ = bd2 (f_X0_runBody (N + 8) (f_X0_run (N + 8) D) (1 : Int32) (am_above 0) x (nI (d + 1)) σ) fun v s => some (v, s) :=
  x_runG (k := 0) (t := 0) (q := 0) hd (by decide) (by decide) (by decide) (x_f1 (k := 0) (t := 0) (i := 0) (by decide) (by decide)) rfl
theorem x_run01 {N D d : Nat} {x : Int32} {σ : Sg} (hd : d ≤ 40) : f_X0_run (N + 8) (D + 1) (nI 0) (nI 1) x (nI d) σ = bd2 (f_X0_runBody (N + 8) (f_X0_run (N + 8) D) (2 : Int32) (am_above 0) x (nI (d + 1)) σ) fun v s => some (v, s) :=
  x_runG (k := 0) (t := 1) (q := 0) hd (by decide) (by decide) (by decide) (x_f1 (k := 0) (t := 1) (i := 0) (by decide) (by decide)) rfl
theorem x_run02 {N D d : Nat} {x : Int32} {σ : Sg} (hd : d ≤ 40) : f_X0_run (N + 8) (D + 1) (nI 0) (nI 2) x (nI d) σ = bd2 (f_X0_runBody (N + 8) (f_X0_run (N + 8) D) (3 : Int32) (am_above 0) x (nI (d + 1)) σ) fun v s => some (v, s) :=
  x_runG (k := 0) (t := 2) (q := 0) hd (by decide) (by decide) (by decide) (x_f1 (k := 0) (t := 2) (i := 0) (by decide) (by decide)) rfl
theorem x_run10 {N D d : Nat} {x : Int32} {σ : Sg} (hd : d ≤ 40) : f_X0_run (N + 8) (D + 1) (nI 1) (nI 0) x (nI d) σ = bd2 (f_X0_runBody (N + 8) (f_X0_run (N + 8) D) (11 : Int32) (am_above 1) x (nI (d + 1)) σ) fun v s => some (v, s) :=
  x_runG (k := 1) (t := 0) (q := 1) hd (by decide) (by decide) (by decide) (x_f1 (k := 1) (t := 0) (i := 0) (by decide) (by decide)) rfl
theorem x_run11 {N D d : Nat} {x : Int32} {σ : Sg} (hd : d ≤ 40) : f_X0_run (N + 8) (D + 1) (nI 1) (nI 1) x (nI d) σ = bd2 (f_X0_runBody (N + 8) (f_X0_run (N + 8) D) (2 : Int32) (am_above 0) x (nI (d + 1)) σ) fun v s => some (v, s) :=
  x_runG (k := 1) (t := 1) (q := 0) hd (by decide) (by decide) (by decide) ((x_f2 (k := 1) (t := 1) (i := 0) (q := 0) (by decide) (by decide) (by decide) (by decide) (by decide) rfl).trans (x_f1 (k := 0) (t := 1) (i := 1) (by decide) (by decide))) rfl
theorem x_run12 {N D d : Nat} {x : Int32} {σ : Sg} (hd : d ≤ 40) : f_X0_run (N + 8) (D + 1) (nI 1) (nI 2) x (nI d) σ = bd2 (f_X0_runBody (N + 8) (f_X0_run (N + 8) D) (3 : Int32) (am_above 0) x (nI (d + 1)) σ) fun v s => some (v, s) :=
  x_runG (k := 1) (t := 2) (q := 0) hd (by decide) (by decide) (by decide) ((x_f2 (k := 1) (t := 2) (i := 0) (q := 0) (by decide) (by decide) (by decide) (by decide) (by decide) rfl).trans (x_f1 (k := 0) (t := 2) (i := 1) (by decide) (by decide))) rfl
theorem x_run20 {N D d : Nat} {x : Int32} {σ : Sg} (hd : d ≤ 40) : f_X0_run (N + 8) (D + 1) (nI 2) (nI 0) x (nI d) σ = bd2 (f_X0_runBody (N + 8) (f_X0_run (N + 8) D) (1 : Int32) (am_above 0) x (nI (d + 1)) σ) fun v s => some (v, s) :=
  x_runG (k := 2) (t := 0) (q := 0) hd (by decide) (by decide) (by decide) ((x_f2 (k := 2) (t := 0) (i := 0) (q := 0) (by decide) (by decide) (by decide) (by decide) (by decide) rfl).trans (x_f1 (k := 0) (t := 0) (i := 1) (by decide) (by decide))) rfl
theorem x_run21 {N D d : Nat} {x : Int32} {σ : Sg} (hd : d ≤ 40) : f_X0_run (N + 8) (D + 1) (nI 2) (nI 1) x (nI d) σ = bd2 (f_X0_runBody (N + 8) (f_X0_run (N + 8) D) (21 : Int32) (am_above 2) x (nI (d + 1)) σ) fun v s => some (v, s) :=
  x_runG (k := 2) (t := 1) (q := 2) hd (by decide) (by decide) (by decide) (x_f1 (k := 2) (t := 1) (i := 0) (by decide) (by decide)) rfl
theorem x_run22 {N D d : Nat} {x : Int32} {σ : Sg} (hd : d ≤ 40) : f_X0_run (N + 8) (D + 1) (nI 2) (nI 2) x (nI d) σ = bd2 (f_X0_runBody (N + 8) (f_X0_run (N + 8) D) (3 : Int32) (am_above 0) x (nI (d + 1)) σ) fun v s => some (v, s) :=
  x_runG (k := 2) (t := 2) (q := 0) hd (by decide) (by decide) (by decide) ((x_f2 (k := 2) (t := 2) (i := 0) (q := 0) (by decide) (by decide) (by decide) (by decide) (by decide) rfl).trans (x_f1 (k := 0) (t := 2) (i := 1) (by decide) (by decide))) rfl
theorem x_run30 {N D d : Nat} {x : Int32} {σ : Sg} (hd : d ≤ 40) : f_X0_run (N + 8) (D + 1) (nI 3) (nI 0) x (nI d) σ = bd2 (f_X0_runBody (N + 8) (f_X0_run (N + 8) D) (1 : Int32) (am_above 0) x (nI (d + 1)) σ) fun v s => some (v, s) :=
  x_runG (k := 3) (t := 0) (q := 0) hd (by decide) (by decide) (by decide) ((x_f2 (k := 3) (t := 0) (i := 0) (q := 0) (by decide) (by decide) (by decide) (by decide) (by decide) rfl).trans (x_f1 (k := 0) (t := 0) (i := 1) (by decide) (by decide))) rfl
theorem x_run31 {N D d : Nat} {x : Int32} {σ : Sg} (hd : d ≤ 40) : f_X0_run (N + 8) (D + 1) (nI 3) (nI 1) x (nI d) σ = bd2 (f_X0_runBody (N + 8) (f_X0_run (N + 8) D) (2 : Int32) (am_above 0) x (nI (d + 1)) σ) fun v s => some (v, s) :=
  x_runG (k := 3) (t := 1) (q := 0) hd (by decide) (by decide) (by decide) ((x_f2 (k := 3) (t := 1) (i := 0) (q := 0) (by decide) (by decide) (by decide) (by decide) (by decide) rfl).trans (x_f1 (k := 0) (t := 1) (i := 1) (by decide) (by decide))) rfl
theorem x_run32 {N D d : Nat} {x : Int32} {σ : Sg} (hd : d ≤ 40) : f_X0_run (N + 8) (D + 1) (nI 3) (nI 2) x (nI d) σ = bd2 (f_X0_runBody (N + 8) (f_X0_run (N + 8) D) (31 : Int32) (am_above 3) x (nI (d + 1)) σ) fun v s => some (v, s) :=
  x_runG (k := 3) (t := 2) (q := 3) hd (by decide) (by decide) (by decide) (x_f1 (k := 3) (t := 2) (i := 0) (by decide) (by decide)) rfl
theorem x_run40 {N D d : Nat} {x : Int32} {σ : Sg} (hd : d ≤ 40) : f_X0_run (N + 8) (D + 1) (nI 4) (nI 0) x (nI d) σ = bd2 (f_X0_runBody (N + 8) (f_X0_run (N + 8) D) (11 : Int32) (am_above 1) x (nI (d + 1)) σ) fun v s => some (v, s) :=
  x_runG (k := 4) (t := 0) (q := 1) hd (by decide) (by decide) (by decide) ((x_f2 (k := 4) (t := 0) (i := 0) (q := 1) (by decide) (by decide) (by decide) (by decide) (by decide) rfl).trans (x_f1 (k := 1) (t := 0) (i := 1) (by decide) (by decide))) rfl
theorem x_run41 {N D d : Nat} {x : Int32} {σ : Sg} (hd : d ≤ 40) : f_X0_run (N + 8) (D + 1) (nI 4) (nI 1) x (nI d) σ = bd2 (f_X0_runBody (N + 8) (f_X0_run (N + 8) D) (2 : Int32) (am_above 0) x (nI (d + 1)) σ) fun v s => some (v, s) :=
  x_runG (k := 4) (t := 1) (q := 0) hd (by decide) (by decide) (by decide) ((x_f2 (k := 4) (t := 1) (i := 0) (q := 1) (by decide) (by decide) (by decide) (by decide) (by decide) rfl).trans ((x_f2 (k := 1) (t := 1) (i := 1) (q := 0) (by decide) (by decide) (by decide) (by decide) (by decide) rfl).trans (x_f1 (k := 0) (t := 1) (i := 2) (by decide) (by decide)))) rfl
theorem x_run42 {N D d : Nat} {x : Int32} {σ : Sg} (hd : d ≤ 40) : f_X0_run (N + 8) (D + 1) (nI 4) (nI 2) x (nI d) σ = bd2 (f_X0_runBody (N + 8) (f_X0_run (N + 8) D) (41 : Int32) (am_above 4) x (nI (d + 1)) σ) fun v s => some (v, s) :=
  x_runG (k := 4) (t := 2) (q := 4) hd (by decide) (by decide) (by decide) (x_f1 (k := 4) (t := 2) (i := 0) (by decide) (by decide)) rfl
theorem x_run50 {N D d : Nat} {x : Int32} {σ : Sg} (hd : d ≤ 40) : f_X0_run (N + 8) (D + 1) (nI 5) (nI 0) x (nI d) σ = bd2 (f_X0_runBody (N + 8) (f_X0_run (N + 8) D) (51 : Int32) (am_above 5) x (nI (d + 1)) σ) fun v s => some (v, s) :=
  x_runG (k := 5) (t := 0) (q := 5) hd (by decide) (by decide) (by decide) (x_f1 (k := 5) (t := 0) (i := 0) (by decide) (by decide)) rfl
theorem x_run51 {N D d : Nat} {x : Int32} {σ : Sg} (hd : d ≤ 40) : f_X0_run (N + 8) (D + 1) (nI 5) (nI 1) x (nI d) σ = bd2 (f_X0_runBody (N + 8) (f_X0_run (N + 8) D) (21 : Int32) (am_above 2) x (nI (d + 1)) σ) fun v s => some (v, s) :=
  x_runG (k := 5) (t := 1) (q := 2) hd (by decide) (by decide) (by decide) ((x_f2 (k := 5) (t := 1) (i := 0) (q := 2) (by decide) (by decide) (by decide) (by decide) (by decide) rfl).trans (x_f1 (k := 2) (t := 1) (i := 1) (by decide) (by decide))) rfl
theorem x_run52 {N D d : Nat} {x : Int32} {σ : Sg} (hd : d ≤ 40) : f_X0_run (N + 8) (D + 1) (nI 5) (nI 2) x (nI d) σ = bd2 (f_X0_runBody (N + 8) (f_X0_run (N + 8) D) (3 : Int32) (am_above 0) x (nI (d + 1)) σ) fun v s => some (v, s) :=
  x_runG (k := 5) (t := 2) (q := 0) hd (by decide) (by decide) (by decide) ((x_f2 (k := 5) (t := 2) (i := 0) (q := 2) (by decide) (by decide) (by decide) (by decide) (by decide) rfl).trans ((x_f2 (k := 2) (t := 2) (i := 1) (q := 0) (by decide) (by decide) (by decide) (by decide) (by decide) rfl).trans (x_f1 (k := 0) (t := 2) (i := 2) (by decide) (by decide)))) rfl
theorem x_run60 {N D d : Nat} {x : Int32} {σ : Sg} (hd : d ≤ 40) : f_X0_run (N + 8) (D + 1) (nI 6) (nI 0) x (nI d) σ = bd2 (f_X0_runBody (N + 8) (f_X0_run (N + 8) D) (1 : Int32) (am_above 0) x (nI (d + 1)) σ) fun v s => some (v, s) :=
  x_runG (k := 6) (t := 0) (q := 0) hd (by decide) (by decide) (by decide) ((x_f2 (k := 6) (t := 0) (i := 0) (q := 3) (by decide) (by decide) (by decide) (by decide) (by decide) rfl).trans ((x_f2 (k := 3) (t := 0) (i := 1) (q := 0) (by decide) (by decide) (by decide) (by decide) (by decide) rfl).trans (x_f1 (k := 0) (t := 0) (i := 2) (by decide) (by decide)))) rfl
theorem x_run61 {N D d : Nat} {x : Int32} {σ : Sg} (hd : d ≤ 40) : f_X0_run (N + 8) (D + 1) (nI 6) (nI 1) x (nI d) σ = bd2 (f_X0_runBody (N + 8) (f_X0_run (N + 8) D) (61 : Int32) (am_above 6) x (nI (d + 1)) σ) fun v s => some (v, s) :=
  x_runG (k := 6) (t := 1) (q := 6) hd (by decide) (by decide) (by decide) (x_f1 (k := 6) (t := 1) (i := 0) (by decide) (by decide)) rfl
theorem x_run62 {N D d : Nat} {x : Int32} {σ : Sg} (hd : d ≤ 40) : f_X0_run (N + 8) (D + 1) (nI 6) (nI 2) x (nI d) σ = bd2 (f_X0_runBody (N + 8) (f_X0_run (N + 8) D) (31 : Int32) (am_above 3) x (nI (d + 1)) σ) fun v s => some (v, s) :=
  x_runG (k := 6) (t := 2) (q := 3) hd (by decide) (by decide) (by decide) ((x_f2 (k := 6) (t := 2) (i := 0) (q := 3) (by decide) (by decide) (by decide) (by decide) (by decide) rfl).trans (x_f1 (k := 3) (t := 2) (i := 1) (by decide) (by decide))) rfl
theorem nts_cons {o a j : Nat} (b : Int32) (l : List Int32) (r : Nat) (σ : Sg) : nts o a j l (r + 1) (nts o a j [b] r σ) = nts o a j (b :: l) r σ := rfl
theorem nts_app {o a j : Nat} : ∀ (l l2 : List Int32) (r : Nat) (σ : Sg), nts o a j l2 (r + l.length) (nts o a j l r σ) = nts o a j (l ++ l2) r σ
  | [], l2, r, σ => rfl
  | b :: l, l2, r, σ => by
    show nts o a j l2 (r + (l.length + 1)) (nts o a j l (r + 1) _) = nts o a j (l ++ l2) (r + 1) _
    rw [show r + (l.length + 1) = r + 1 + l.length by omega]
    exact nts_app l l2 (r + 1) _
def aSt (K : Nat) (X V : Int32) (r : Nat) (σ : Sg) : Prop := rg σ 9 0 = nI r ∧ rg σ 9 2 = X ∧ rg σ 9 3 = nI K ∧ rg σ 9 4 = V
theorem aSt.nts {K : Nat} {X V : Int32} {r : Nat} {σ : Sg} (h : aSt K X V r σ) (l : List Int32) : aSt K X V (r + l.length) (nts 9 59 0 l r σ) := by
  obtain ⟨h1, h2, h3, h4⟩ := h
  exact ⟨nts_r _ _ _ h1, (nts_rg _ _ _ _ _ (by omega)).trans h2, (nts_rg _ _ _ _ _ (by omega)).trans h3, (nts_rg _ _ _ _ _ (by omega)).trans h4⟩
section AB
variable {N K r : Nat} {kr : Int32 → Int32 → Int32 → Int32 → Sg → Option (Int32 × Sg)} {ab x d X V v v2 : Int32} {l l2 : List Int32} {σ : Sg}
theorem x_b1 (h : aSt K X V r σ) (hr : r < 20) : f_X0_runBody N kr 1 ab x d σ = some (x + X, nts 9 59 0 [1] r σ) := by
  unfold f_X0_runBody
  refine bd_k (x_note6 h.1 hr) (if_T rfl ?_)
  rw [(h.nts [1]).2.1]
theorem x_b2 (h : aSt K X V r σ) (hr : r < 20) (e : kr (nI K) 0 x d (nts 9 59 0 [2] r σ) = some (v, nts 9 59 0 l (r + 1) (nts 9 59 0 [2] r σ))) : f_X0_runBody N kr 2 ab x d σ = some (v - V, nts 9 59 0 (2 :: l) r σ) := by
  unfold f_X0_runBody
  rw [← (h.nts [2]).2.2.1] at e
  refine bd_k (x_note6 h.1 hr) (if_F (by decide) (if_T rfl (bd2_k e ?_)))
  rw [nts_cons, (h.nts (2 :: l)).2.2.2]
theorem x_b3 (h : aSt K X V r σ) (hr : r < 20) (e : kr (nI K) 1 x d (nts 9 59 0 [3] r σ) = some (v, nts 9 59 0 l (r + 1) (nts 9 59 0 [3] r σ))) : f_X0_runBody N kr 3 ab x d σ = some (v * 2, nts 9 59 0 (3 :: l) r σ) := by
  unfold f_X0_runBody
  rw [← (h.nts [3]).2.2.1] at e
  exact bd_k (x_note6 h.1 hr) (if_F (by decide) (if_F (by decide) (if_T rfl (bd2_k e rfl))))
theorem x_b11 (h : aSt K X V r σ) (hr : r < 20) (e : kr ab 0 (x * 3) d (nts 9 59 0 [11] r σ) = some (v, nts 9 59 0 l (r + 1) (nts 9 59 0 [11] r σ))) : f_X0_runBody N kr 11 ab x d σ = some (v, nts 9 59 0 (11 :: l) r σ) := by
  unfold f_X0_runBody
  exact bd_k (x_note6 h.1 hr) (if_F (by decide) (if_F (by decide) (if_F (by decide) (if_T rfl (bd2_k e rfl)))))
theorem x_b21 (h : aSt K X V r σ) (hr : r < 20) (e : kr ab 1 x d (nts 9 59 0 [21] r σ) = some (v, nts 9 59 0 l (r + 1) (nts 9 59 0 [21] r σ))) : f_X0_runBody N kr 21 ab x d σ = some (-v, nts 9 59 0 (21 :: l) r σ) := by
  unfold f_X0_runBody
  exact bd_k (x_note6 h.1 hr) (if_F (by decide) (if_F (by decide) (if_F (by decide) (if_F (by decide) (if_T rfl (bd2_k e rfl))))))
theorem x_b31 (h : aSt K X V r σ) (hr : r < 20) (e : kr ab 2 x d (nts 9 59 0 [31] r σ) = some (v, nts 9 59 0 l (r + 1) (nts 9 59 0 [31] r σ))) : f_X0_runBody N kr 31 ab x d σ = some (v ^^^ 7, nts 9 59 0 (31 :: l) r σ) := by
  unfold f_X0_runBody
  exact bd_k (x_note6 h.1 hr) (if_F (by decide) (if_F (by decide) (if_F (by decide) (if_F (by decide) (if_F (by decide) (if_T rfl (bd2_k e rfl)))))))
theorem x_b41 (h : aSt K X V r σ) (hr : r < 20) (e : kr ab 2 (x - 1) d (nts 9 59 0 [41] r σ) = some (v, nts 9 59 0 l (r + 1) (nts 9 59 0 [41] r σ))) (e2 : kr (nI K) 0 2 d (nts 9 59 0 (41 :: l) r σ) = some (v2, nts 9 59 0 l2 (r + (41 :: l).length) (nts 9 59 0 (41 :: l) r σ))) : f_X0_runBody N kr 41 ab x d σ = some (v + v2, nts 9 59 0 ((41 :: l) ++ l2) r σ) := by
  unfold f_X0_runBody
  refine bd_k (x_note6 h.1 hr) (if_F (by decide) (if_F (by decide) (if_F (by decide) (if_F (by decide) (if_F (by decide) (if_F (by decide) (if_T rfl (bd2_k e ?_))))))))
  rw [nts_cons, (h.nts (41 :: l)).2.2.1]
  refine bd2_k e2 ?_
  rw [nts_app]
theorem x_b51 (h : aSt K X V r σ) (hr : r < 20) (e : kr ab 0 x d (nts 9 59 0 [51] r σ) = some (v, nts 9 59 0 l (r + 1) (nts 9 59 0 [51] r σ))) : f_X0_runBody N kr 51 ab x d σ = some (v ^^^ X, nts 9 59 0 (51 :: l) r σ) := by
  unfold f_X0_runBody
  refine bd_k (x_note6 h.1 hr) (if_F (by decide) (if_F (by decide) (if_F (by decide) (if_F (by decide) (if_F (by decide) (if_F (by decide) (if_F (by decide) (if_T rfl (bd2_k e ?_)))))))))
  rw [nts_cons, (h.nts (51 :: l)).2.1]
theorem x_b61 (h : aSt K X V r σ) (hr : r < 20) (e : kr ab 1 x d (nts 9 59 0 [61] r σ) = some (v, nts 9 59 0 l (r + 1) (nts 9 59 0 [61] r σ))) : f_X0_runBody N kr 61 ab x d σ = some (v + V, nts 9 59 0 (61 :: l) r σ) := by
  unfold f_X0_runBody
  refine bd_k (x_note6 h.1 hr) (if_F (by decide) (if_F (by decide) (if_F (by decide) (if_F (by decide) (if_F (by decide) (if_F (by decide) (if_F (by decide) (if_F (by decide) (if_T rfl (bd2_k e ?_))))))))))
  rw [nts_cons, (h.nts (61 :: l)).2.2.2]
end AB
section AR
variable {N K D d r : Nat} {x X V : Int32} {σ : Sg}
theorem r_C0 (hd : d ≤ 30) (h : aSt K X V r σ) (hr : r < 20) : f_X0_run (N + 8) (D + 1) (nI 0) (nI 0) x (nI d) σ = some (x + X, nts 9 59 0 [1] r σ) := (x_run00 (by omega)).trans (bd2_k (x_b1 h hr) rfl)
theorem r_C2 (hd : d ≤ 30) (h : aSt K X V r σ) (hr : r < 20) : f_X0_run (N + 8) (D + 1) (nI 2) (nI 0) x (nI d) σ = some (x + X, nts 9 59 0 [1] r σ) := (x_run20 (by omega)).trans (bd2_k (x_b1 h hr) rfl)
theorem r_C (hd : d ≤ 29) (h : aSt K X V r σ) (hr : r < 19) (hK : K < 7) : f_X0_run (N + 8) (D + 2) (nI K) (nI 0) x (nI d) σ = some (acv x X V K 0, nts 9 59 0 (act K 0) r σ) := by
  match K, hK, h with
  | 0, _, h => exact (x_run00 (by omega)).trans (bd2_k (x_b1 h (by omega)) rfl)
  | 1, _, h => exact (x_run10 (by omega)).trans (bd2_k (x_b11 h (by omega) (r_C0 (by omega) (h.nts [11]) (by show r + 1 < 20; omega))) rfl)
  | 2, _, h => exact (x_run20 (by omega)).trans (bd2_k (x_b1 h (by omega)) rfl)
  | 3, _, h => exact (x_run30 (by omega)).trans (bd2_k (x_b1 h (by omega)) rfl)
  | 4, _, h => exact (x_run40 (by omega)).trans (bd2_k (x_b11 h (by omega) (r_C0 (by omega) (h.nts [11]) (by show r + 1 < 20; omega))) rfl)
  | 5, _, h => exact (x_run50 (by omega)).trans (bd2_k (x_b51 h (by omega) (r_C2 (by omega) (h.nts [51]) (by show r + 1 < 20; omega))) rfl)
  | 6, _, h => exact (x_run60 (by omega)).trans (bd2_k (x_b1 h (by omega)) rfl)
  | K + 7, h, _ => exact absurd h (by omega)
theorem r_P0 (hd : d ≤ 28) (h : aSt K X V r σ) (hr : r < 18) (hK : K < 7) : f_X0_run (N + 8) (D + 3) (nI 0) (nI 1) x (nI d) σ = some (acv x X V K 0 - V, nts 9 59 0 (2 :: act K 0) r σ) := (x_run01 (by omega)).trans (bd2_k (x_b2 h (by omega) (r_C (by omega) (h.nts [2]) (by show r + 1 < 19; omega) hK)) rfl)
theorem r_P3 (hd : d ≤ 28) (h : aSt K X V r σ) (hr : r < 18) (hK : K < 7) : f_X0_run (N + 8) (D + 3) (nI 3) (nI 1) x (nI d) σ = some (acv x X V K 0 - V, nts 9 59 0 (2 :: act K 0) r σ) := (x_run31 (by omega)).trans (bd2_k (x_b2 h (by omega) (r_C (by omega) (h.nts [2]) (by show r + 1 < 19; omega) hK)) rfl)
theorem r_P (hd : d ≤ 27) (h : aSt K X V r σ) (hr : r < 17) (hK : K < 7) : f_X0_run (N + 8) (D + 4) (nI K) (nI 1) x (nI d) σ = some (acv x X V K 1, nts 9 59 0 (act K 1) r σ) := by
  match K, hK, h with
  | 0, _, h => exact (x_run01 (by omega)).trans (bd2_k (x_b2 h (by omega) (r_C (by omega) (h.nts [2]) (by show r + 1 < 19; omega) (by decide))) rfl)
  | 1, _, h => exact (x_run11 (by omega)).trans (bd2_k (x_b2 h (by omega) (r_C (by omega) (h.nts [2]) (by show r + 1 < 19; omega) (by decide))) rfl)
  | 2, _, h => exact (x_run21 (by omega)).trans (bd2_k (x_b21 h (by omega) (r_P0 (by omega) (h.nts [21]) (by show r + 1 < 18; omega) (by decide))) rfl)
  | 3, _, h => exact (x_run31 (by omega)).trans (bd2_k (x_b2 h (by omega) (r_C (by omega) (h.nts [2]) (by show r + 1 < 19; omega) (by decide))) rfl)
  | 4, _, h => exact (x_run41 (by omega)).trans (bd2_k (x_b2 h (by omega) (r_C (by omega) (h.nts [2]) (by show r + 1 < 19; omega) (by decide))) rfl)
  | 5, _, h => exact (x_run51 (by omega)).trans (bd2_k (x_b21 h (by omega) (r_P0 (by omega) (h.nts [21]) (by show r + 1 < 18; omega) (by decide))) rfl)
  | 6, _, h => exact (x_run61 (by omega)).trans (bd2_k (x_b61 h (by omega) (r_P3 (by omega) (h.nts [61]) (by show r + 1 < 18; omega) (by decide))) rfl)
  | K + 7, h, _ => exact absurd h (by omega)
theorem r_T0 (hd : d ≤ 26) (h : aSt K X V r σ) (hr : r < 16) (hK : K < 7) : f_X0_run (N + 8) (D + 5) (nI 0) (nI 2) x (nI d) σ = some (acv x X V K 1 * 2, nts 9 59 0 (3 :: act K 1) r σ) := (x_run02 (by omega)).trans (bd2_k (x_b3 h (by omega) (r_P (by omega) (h.nts [3]) (by show r + 1 < 17; omega) hK)) rfl)
theorem r_T1 (hd : d ≤ 26) (h : aSt K X V r σ) (hr : r < 16) (hK : K < 7) : f_X0_run (N + 8) (D + 5) (nI 1) (nI 2) x (nI d) σ = some (acv x X V K 1 * 2, nts 9 59 0 (3 :: act K 1) r σ) := (x_run12 (by omega)).trans (bd2_k (x_b3 h (by omega) (r_P (by omega) (h.nts [3]) (by show r + 1 < 17; omega) hK)) rfl)
theorem r_T (hd : d ≤ 25) (h : aSt K X V r σ) (hr : r < 10) (hK : K < 7) : f_X0_run (N + 8) (D + 6) (nI K) (nI 2) x (nI d) σ = some (acv x X V K 2, nts 9 59 0 (act K 2) r σ) := by
  match K, hK, h with
  | 0, _, h => exact (x_run02 (by omega)).trans (bd2_k (x_b3 h (by omega) (r_P (by omega) (h.nts [3]) (by show r + 1 < 17; omega) (by decide))) rfl)
  | 1, _, h => exact (x_run12 (by omega)).trans (bd2_k (x_b3 h (by omega) (r_P (by omega) (h.nts [3]) (by show r + 1 < 17; omega) (by decide))) rfl)
  | 2, _, h => exact (x_run22 (by omega)).trans (bd2_k (x_b3 h (by omega) (r_P (by omega) (h.nts [3]) (by show r + 1 < 17; omega) (by decide))) rfl)
  | 3, _, h => exact (x_run32 (by omega)).trans (bd2_k (x_b31 h (by omega) (r_T0 (by omega) (h.nts [31]) (by show r + 1 < 16; omega) (by decide))) rfl)
  | 4, _, h => exact (x_run42 (by omega)).trans (bd2_k (x_b41 h (by omega) (r_T1 (by omega) (h.nts [41]) (by show r + 1 < 16; omega) (by decide)) (r_C (by omega) (h.nts (41 :: (3 :: act 4 1))) (by show r + 5 < 19; omega) (by decide))) rfl)
  | 5, _, h => exact (x_run52 (by omega)).trans (bd2_k (x_b3 h (by omega) (r_P (by omega) (h.nts [3]) (by show r + 1 < 17; omega) (by decide))) rfl)
  | 6, _, h => exact (x_run62 (by omega)).trans (bd2_k (x_b31 h (by omega) (r_T0 (by omega) (h.nts [31]) (by show r + 1 < 16; omega) (by decide))) rfl)
  | K + 7, h, _ => exact absurd h (by omega)
theorem x_act6 {N : Nat} {σ : Sg} {x X V : Int32} (K : Nat) (hK : K < 7) (t : Nat) (ht : t < 3) : f_X0_run (N + 8) 20 (nI K) (nI t) x 0 (srg (srg (srg (srg σ 9 0 0) 9 2 X) 9 3 (nI K)) 9 4 V) = some (acv x X V K t, nts 9 59 0 (act K t) 0 (srg (srg (srg (srg σ 9 0 0) 9 2 X) 9 3 (nI K)) 9 4 V)) := by
  have h : aSt K X V 0 (srg (srg (srg (srg σ 9 0 0) 9 2 X) 9 3 (nI K)) 9 4 V) := ⟨rfl, rfl, rfl, rfl⟩
  rcases (show t = 0 ∨ t = 1 ∨ t = 2 by omega) with rfl | rfl | rfl
  · exact r_C (D := 18) (d := 0) (by decide) h (by decide) hK
  · exact r_P (D := 16) (d := 0) (by decide) h (by decide) hK
  · exact r_T (D := 14) (d := 0) (by decide) h (by decide) hK
end AR
theorem x_act70 {N : Nat} {σ : Sg} {x X V : Int32} : ∀ k, k < 7 → f_X7_countsActs N x (srg (srg (srg (srg σ 60 34 0) 60 35 (nI k)) 60 36 X) 60 37 V) = some (acv x X V k 0, nts 60 82 34 (act k 0) 0 (srg (srg (srg (srg σ 60 34 0) 60 35 (nI k)) 60 36 X) 60 37 V))
  | 0, _ => rfl
  | 1, _ => rfl
  | 2, _ => rfl
  | 3, _ => rfl
  | 4, _ => rfl
  | 5, _ => rfl
  | 6, _ => rfl
  | k + 7, h => absurd h (by omega)
theorem x_act71 {N : Nat} {σ : Sg} {x X V : Int32} : ∀ k, k < 7 → f_X7_paysActs N x (srg (srg (srg (srg σ 60 34 0) 60 35 (nI k)) 60 36 X) 60 37 V) = some (acv x X V k 1, nts 60 82 34 (act k 1) 0 (srg (srg (srg (srg σ 60 34 0) 60 35 (nI k)) 60 36 X) 60 37 V))
  | 0, _ => rfl
  | 1, _ => rfl
  | 2, _ => rfl
  | 3, _ => rfl
  | 4, _ => rfl
  | 5, _ => rfl
  | 6, _ => rfl
  | k + 7, h => absurd h (by omega)
theorem x_act72 {N : Nat} {σ : Sg} {x X V : Int32} : ∀ k, k < 7 → f_X7_tellsActs N x (srg (srg (srg (srg σ 60 34 0) 60 35 (nI k)) 60 36 X) 60 37 V) = some (acv x X V k 2, nts 60 82 34 (act k 2) 0 (srg (srg (srg (srg σ 60 34 0) 60 35 (nI k)) 60 36 X) 60 37 V))
  | 0, _ => rfl
  | 1, _ => rfl
  | 2, _ => rfl
  | 3, _ => rfl
  | 4, _ => rfl
  | 5, _ => rfl
  | 6, _ => rfl
  | k + 7, h => absurd h (by omega)
theorem act_len : ∀ k, k < 7 → ∀ t, t < 3 → (act k t).length < 20 := by decide
theorem op_act {N : Nat} {σ : Sg} {A : Ab} (hI : Inv A σ) (x y z : Int32) : Ok2 (f_X6_act (N + 8) x y z) (f_X7_act (N + 8) x y z) σ := by
  obtain ⟨⟨hS7, hD99, hT100, hW5, hZ7⟩, hAS, hAT, hAZ, hAW, hAW0⟩ := id hI.1
  obtain ⟨-, hC, hM, hK, r, hr, r1, r2, r3⟩ := id hI
  obtain ⟨⟨c1, c2, c3, c4, c5⟩, cS, cT, cZ, cW⟩ := id hC
  obtain ⟨⟨m1, m2, m3, m4, m5, m6⟩, mS, mT, mZ, mW⟩ := id hM
  have hz : Inv A (srg (srg σ 9 0 0) 60 34 0) := hI.tr (fun k j h1 h2 => by rw [rg_s1 (by omega), rg_s1 (by omega)]) rfl (fun k h1 h2 => rfl) (r := 0) (by decide) rfl rfl (fun i hi => absurd hi (Nat.not_lt_zero i))
  unfold f_X6_act f_X7_act f_X0_forget
  have c1' : rg (srg σ 9 0 0) 1 0 = nI (aS A) := c1
  have m1' : ar (srg (srg σ 9 0 0) 60 34 0) 61 0 = nI (aS A) := m1
  rcases i_cases x with h | ⟨a, ha, rfl⟩
  · exact ⟨0, srg σ 9 0 0, srg (srg σ 9 0 0) 60 34 0, A, bd_k rfl (bd2_k (x_has_lo h) (if_T n00 rfl)), nm_k (bd2_k (x_isS_lo h) (if_T n00 rfl)), hz⟩
  by_cases haS : aS A ≤ a
  · exact ⟨0, srg σ 9 0 0, srg (srg σ 9 0 0) 60 34 0, A, bd_k rfl (bd2_k (x_has_F c1' hS7 haS ha) (if_T n00 rfl)), nm_k (bd2_k (x_isS_F m1' hS7 haS ha) (if_T n00 rfl)), hz⟩
  have haS' : a < aS A := by omega
  rcases i_cases y with h | ⟨t, ht, rfl⟩
  · exact ⟨0, srg σ 9 0 0, srg (srg σ 9 0 0) 60 34 0, A, bd_k rfl (bd2_k (x_has_T c1' hS7 haS') (if_F n10 (if_T h rfl))), nm_k (bd2_k (x_isS_T m1' hS7 haS') (if_F n10 (bd2_k (x_in_lo h (by decide) _) (if_T n00 rfl)))), hz⟩
  by_cases ht2 : 2 < t
  · exact ⟨0, srg σ 9 0 0, srg (srg σ 9 0 0) 60 34 0, A, bd_k rfl (bd2_k (x_has_T c1' hS7 haS') (if_F n10 (if_F (of_eq_false (ilt_F (Nat.zero_le _) ht)) (if_F (of_eq_false (ilt_F (by omega : 3 ≤ t) ht)) rfl)))), nm_k (bd2_k (x_isS_T m1' hS7 haS') (if_F n10 (bd2_k (x_in_F (Or.inr ht2) ht (by decide) (by decide)) (if_T n00 rfl)))), hz⟩
  obtain ⟨d1, d2, d3, d4, d5⟩ := cS a haS'
  obtain ⟨e1, e2, e3, e4, e5⟩ := mS a haS'
  obtain ⟨p1, p2, p3, p4, p5, p6⟩ := hAS a haS'
  have k6 := @x_act6 N σ z (nI a) (nI (vv A a)) (kd A a) (by omega) t (by omega)
  have hlen := act_len (kd A a) (by omega) t (by omega)
  refine ⟨acv z (nI a) (nI (vv A a)) (kd A a) t, nts 9 59 0 (act (kd A a) t) 0 (srg (srg (srg (srg σ 9 0 0) 9 2 (nI a)) 9 3 (nI (kd A a))) 9 4 (nI (vv A a))), nts 60 82 34 (act (kd A a) t) 0 (srg (srg (srg (srg (nts 9 59 0 (act (kd A a) t) 0 (srg (srg (srg (srg σ 9 0 0) 9 2 (nI a)) 9 3 (nI (kd A a))) 9 4 (nI (vv A a)))) 60 34 0) 60 35 (nI (kd A a))) 60 36 (nI a)) 60 37 (nI (vv A a))), A, ?_, ?_, ?_⟩
  · refine bd_k rfl (bd2_k (x_has_T c1' hS7 haS') (if_F n10 (if_F (of_eq_false (ilt_F (Nat.zero_le _) ht)) (if_T (of_eq_true (ilt_T (by omega : t < 3) (by decide))) (bd2_k ?_ rfl)))))
    unfold f_X0_perform
    refine nm_k (gd_k (inb_nI (by omega) (by decide)) (nm_k (gd_k (inb_nI (by omega) (by decide)) (nm_k ?_))))
    rw [nI_clamp (by omega)]
    rw [show ar (srg (srg σ 9 0 0) 9 2 (nI a)) 10 a = nI (kd A a) from d1, show ar (srg (srg (srg σ 9 0 0) 9 2 (nI a)) 9 3 (nI (kd A a))) 11 a = nI (vv A a) from d2]
    exact bd2_k k6 rfl
  · have hM1 : ar (nts 9 59 0 (act (kd A a) t) 0 (srg (srg (srg (srg σ 9 0 0) 9 2 (nI a)) 9 3 (nI (kd A a))) 9 4 (nI (vv A a)))) 61 = ar σ 61 := nts_ar _ _ _ _ (by decide)
    have k70 := fun s => @x_act70 (N + 8) s z (nI a) (nI (vv A a)) (kd A a) (by omega)
    have k71 := fun s => @x_act71 (N + 8) s z (nI a) (nI (vv A a)) (kd A a) (by omega)
    have k72 := fun s => @x_act72 (N + 8) s z (nI a) (nI (vv A a)) (kd A a) (by omega)
    generalize nts 9 59 0 (act (kd A a) t) 0 (srg (srg (srg (srg σ 9 0 0) 9 2 (nI a)) 9 3 (nI (kd A a))) 9 4 (nI (vv A a))) = s at hM1 ⊢
    have m1'' : ar (srg s 60 34 0) 61 0 = nI (aS A) := by rw [ar_srg, hM1]; exact m1
    refine nm_k (bd2_k (x_isS_T m1'' hS7 haS') (if_F n10 (bd2_k (x_in_T (Nat.zero_le _) (by omega : t ≤ 2) (by decide)) (if_F n10 (gd_k ?_ (nm_k (nm_k (gd_k ?_ (nm_k ?_)))))))))
    · rw [l_10, nI_add]
      exact inb_nI (by omega) (by decide)
    · rw [l_17, nI_add]
      exact inb_nI (by omega) (by decide)
    · rw [l_10, l_17, nI_add, nI_add, nI_clamp (by omega), nI_clamp (by omega)]
      rw [show ar (srg s 60 34 0) 61 (10 + a) = nI (kd A a) from (congrFun hM1 _).trans e1]
      rw [show ar (srg (srg (srg s 60 34 0) 60 35 (nI (kd A a))) 60 36 (nI a)) 61 (17 + a) = nI (vv A a) from (congrFun hM1 _).trans e2]
      rcases (show t = 0 ∨ t = 1 ∨ t = 2 by omega) with rfl | rfl | rfl
      · exact if_T rfl (bd2_k (k70 s) rfl)
      · exact if_F (by decide) (if_T rfl (bd2_k (k71 s) rfl))
      · exact if_F (by decide) (if_F (by decide) (bd2_k (k72 s) rfl))
  · refine hI.tr (fun k j h1 h2 => ?_) ?_ (fun k h1 h2 => ?_) (r := (act (kd A a) t).length) (by omega) ?_ ?_ (fun i hi _ => ?_)
    · rw [nts_rg _ _ _ _ _ (by omega), rg_s1 (by omega), rg_s1 (by omega), rg_s1 (by omega), rg_s1 (by omega), nts_rg _ _ _ _ _ (by omega), rg_s1 (by omega), rg_s1 (by omega), rg_s1 (by omega), rg_s1 (by omega)]
    · rw [nts_rg _ _ _ _ _ (by omega), rg_s1 (by omega), rg_s1 (by omega), rg_s1 (by omega), rg_s1 (by omega), nts_rg _ _ _ _ _ (by omega), rg_s1 (by omega), rg_s1 (by omega), rg_s1 (by omega), rg_s1 (by omega)]
    · rw [nts_ar _ _ _ _ h2, ar_srg, ar_srg, ar_srg, ar_srg, nts_ar _ _ _ _ h1]
      rfl
    · rw [nts_rg _ _ _ _ _ (by omega), rg_s1 (by omega), rg_s1 (by omega), rg_s1 (by omega), rg_s1 (by omega), nts_r _ 0 _ rfl, Nat.zero_add]
    · rw [nts_r _ 0 _ rfl, Nat.zero_add]
    · have h1 := nts_at (o := 60) (a := 82) (j := 34) (act (kd A a) t) 0 (srg (srg (srg (srg (nts 9 59 0 (act (kd A a) t) 0 (srg (srg (srg (srg σ 9 0 0) 9 2 (nI a)) 9 3 (nI (kd A a))) 9 4 (nI (vv A a)))) 60 34 0) 60 35 (nI (kd A a))) 60 36 (nI a)) 60 37 (nI (vv A a))) i hi
      have h2 := nts_at (o := 9) (a := 59) (j := 0) (act (kd A a) t) 0 (srg (srg (srg (srg σ 9 0 0) 9 2 (nI a)) 9 3 (nI (kd A a))) 9 4 (nI (vv A a))) i hi
      rw [Nat.zero_add] at h1 h2
      rw [h1, nts_ar _ _ _ _ (by decide), ar_srg, ar_srg, ar_srg, ar_srg, h2]
