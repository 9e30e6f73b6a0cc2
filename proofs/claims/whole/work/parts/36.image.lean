/-! stepping with what holds behind; the image -/
def Wo {α : Type} (o : Option α) (Q : α → Prop) : Prop := ∃ r, o = some r ∧ Q r
theorem w_ret {α : Type} {r : α} {Q : α → Prop} (h : Q r) : Wo (some r) Q := ⟨r, rfl, h⟩
theorem w_of {α : Type} {o : Option α} {r : α} {Q : α → Prop} (e : o = some r) (h : Q r) : Wo o Q := ⟨r, e, h⟩
theorem w_mono {α : Type} {o : Option α} {P Q : α → Prop} (h : Wo o P) (g : ∀ r, P r → Q r) : Wo o Q := by
  obtain ⟨r, e, p⟩ := h
  exact ⟨r, e, g r p⟩
theorem w_nm {α β : Type} {v : α} {k : α → Option β} {Q : β → Prop} (h : Wo (k v) Q) : Wo (nm v k) Q := h
theorem w_gd {α : Type} {b : Bool} {k : Option α} {Q : α → Prop} (e : b = true) (h : Wo k Q) : Wo (gd b k) Q := by
  subst e
  exact h
theorem w_bd {α β : Type} {o : Option α} {k : α → Option β} {P : α → Prop} {Q : β → Prop} (h : Wo o P) (g : ∀ x, P x → Wo (k x) Q) : Wo (bd o k) Q := by
  obtain ⟨r, e, p⟩ := h
  subst e
  exact g r p
theorem w_bd2 {α β γ : Type} {o : Option (α × β)} {k : α → β → Option γ} {P : α × β → Prop} {Q : γ → Prop} (h : Wo o P) (g : ∀ x y, P (x, y) → Wo (k x y) Q) : Wo (bd2 o k) Q := by
  obtain ⟨⟨x, y⟩, e, p⟩ := h
  subst e
  exact g x y p
theorem w_e1 {α β : Type} {o : Option α} {x : α} {k : α → Option β} {Q : β → Prop} (e : o = some x) (g : Wo (k x) Q) : Wo (bd o k) Q := by
  subst e
  exact g
theorem w_e2 {α β γ : Type} {o : Option (α × β)} {x : α} {y : β} {k : α → β → Option γ} {Q : γ → Prop} (e : o = some (x, y)) (g : Wo (k x y) Q) : Wo (bd2 o k) Q := by
  subst e
  exact g
theorem w_T {α : Type} {c : Prop} [Decidable c] {a b : Option α} {Q : α → Prop} (h : c) (g : Wo a Q) : Wo (if c then a else b) Q := by
  rw [if_pos h]
  exact g
theorem w_F {α : Type} {c : Prop} [Decidable c] {a b : Option α} {Q : α → Prop} (h : ¬ c) (g : Wo b Q) : Wo (if c then a else b) Q := by
  rw [if_neg h]
  exact g
theorem bd_k {α β : Type} {o : Option α} {x : α} {k : α → Option β} {r : Option β} (h : o = some x) (g : k x = r) : bd o k = r := by
  subst h
  exact g
theorem twM_len : ∀ t : Tw, (twM t).length = (twC t).length + t.length
  | [] => rfl
  | q :: t => by
    have h := twM_len t
    unfold twM twC at h ⊢
    rw [List.flatMap_cons, List.flatMap_cons, List.length_append, List.length_append, List.length_append, List.length_map, h]
    show q.2.2.length + 1 + _ = q.2.2.length + _ + (t.length + 1)
    omega
theorem RM.copy {a b : Nat} {A : Ab} {σ σ' : Sg} (hA : AOK A) (h : RM a A σ) (g : ∀ i, i < 906 → ar σ' b i = ar σ a i) : RM b A σ' := by
  obtain ⟨⟨hS7, hD99, hT100, hW5, hZ7⟩, hAS, hAT, hAZ, hAW, hAW0⟩ := hA
  obtain ⟨⟨m1, m2, m3, m4, m5, m6⟩, mS, mT, mZ, mW⟩ := h
  have hl := twM_len (tw A)
  obtain ⟨t1, t2, t3⟩ := hAW
  refine ⟨⟨?_, ?_, ?_, ?_, ?_, ?_⟩, fun k hk => ?_, fun i hi => ?_, fun i hi => ?_, fun h0 => ⟨?_, fun i hi => ?_⟩⟩
  · rw [g _ (by omega)]; exact m1
  · rw [g _ (by omega)]; exact m2
  · rw [g _ (by omega)]; exact m3
  · rw [g _ (by omega)]; exact m4
  · rw [g _ (by omega)]; exact m5
  · rw [g _ (by omega)]; exact m6
  · obtain ⟨d1, d2, d3, d4, d5⟩ := mS k hk
    refine ⟨?_, ?_, ?_, ?_, fun j hj => ?_⟩
    · rw [g _ (by omega)]; exact d1
    · rw [g _ (by omega)]; exact d2
    · rw [g _ (by omega)]; exact d3
    · rw [g _ (by omega)]; exact d4
    · rw [g _ (by omega)]; exact d5 j hj
  · rw [g _ (by omega)]; exact mT i hi
  · rw [g _ (by omega), g _ (by omega)]; exact mZ i hi
  · rw [g _ (by omega)]; exact (mW h0).1
  · rw [g _ (by omega)]; exact (mW h0).2 i hi
theorem RC.copy {o b t u o' b' t' u' : Nat} {A : Ab} {σ σ' : Sg} (hA : AOK A) (h : RC o b t u A σ) (g0 : rg σ' o' 0 = rg σ o 0) (g6 : rg σ' o' 6 = rg σ o 6) (g7 : rg σ' o' 7 = rg σ o 7) (g9 : rg σ' o' 9 = rg σ o 9) (g11 : rg σ' o' 11 = rg σ o 11) (ga : ∀ k, k < 8 → ∀ i, i < (if k = 5 then 100 else 7) → ar σ' (b' + k) i = ar σ (b + k) i) (gt0 : rg σ' t' 0 = rg σ t 0) (gt4 : rg σ' t' 4 = rg σ t 4) (gu : ∀ k, k < 4 → ∀ i, i < (if k = 3 then 100 else if k = 2 then 11 else 10) → ar σ' (u' + k) i = ar σ (u + k) i) : RC o' b' t' u' A σ' := by
  obtain ⟨⟨hS7, hD99, hT100, hW5, hZ7⟩, hAS, hAT, hAZ, hAW, hAW0⟩ := hA
  obtain ⟨⟨c1, c2, c3, c4, c5⟩, cS, cT, cZ, cW⟩ := h
  obtain ⟨a1, a2, a3, a4, a5⟩ := cW
  obtain ⟨t1, t2, t3⟩ := hAW
  refine ⟨⟨g0.trans c1, g6.trans c2, g7.trans c3, g9.trans c4, g11.trans c5⟩, fun k hk => ?_, fun i hi => ?_, fun i hi => ?_, gt0.trans a1, gt4.trans a2, fun i hi => ?_, fun i hi => ?_, fun i hi => ?_⟩
  · obtain ⟨d1, d2, d3, d4, d5⟩ := cS k hk
    exact ⟨(ga 0 (by decide) k (show k < 7 by omega)).trans d1, (ga 1 (by decide) k (show k < 7 by omega)).trans d2, (ga 2 (by decide) k (show k < 7 by omega)).trans d3, (ga 3 (by decide) k (show k < 7 by omega)).trans d4, (ga 4 (by decide) k (show k < 7 by omega)).trans d5⟩
  · exact (ga 5 (by decide) i (show i < 100 by omega)).trans (cT i hi)
  · exact ⟨(ga 6 (by decide) i (show i < 7 by omega)).trans (cZ i hi).1, (ga 7 (by decide) i (show i < 7 by omega)).trans (cZ i hi).2⟩
  · exact ⟨(gu 0 (by decide) i (show i < 10 by omega)).trans (a3 i hi).1, (gu 1 (by decide) i (show i < 10 by omega)).trans (a3 i hi).2⟩
  · exact (gu 2 (by decide) i (show i < 11 by omega)).trans (a4 i hi)
  · exact (gu 3 (by decide) i (show i < 100 by omega)).trans (a5 i hi)
theorem lt8 {P : Nat → Prop} (h0 : P 0) (h1 : P 1) (h2 : P 2) (h3 : P 3) (h4 : P 4) (h5 : P 5) (h6 : P 6) (h7 : P 7) : ∀ k, k < 8 → P k
  | 0, _ => h0
  | 1, _ => h1
  | 2, _ => h2
  | 3, _ => h3
  | 4, _ => h4
  | 5, _ => h5
  | 6, _ => h6
  | 7, _ => h7
  | k + 8, h => absurd h (by omega)
theorem lt4 {P : Nat → Prop} (h0 : P 0) (h1 : P 1) (h2 : P 2) (h3 : P 3) : ∀ k, k < 4 → P k
  | 0, _ => h0
  | 1, _ => h1
  | 2, _ => h2
  | 3, _ => h3
  | k + 4, h => absurd h (by omega)
theorem x_img7 {N : Nat} : ∀ m n j, j + m = 906 → ∀ σ : Sg, ∃ σ', b_X7_image_2 N (n + m + 1) (nI j) σ = some (ar σ 61 0, σ') ∧ rg σ' 60 3 = 1 ∧ (∀ k i, ¬ (k = 60 ∧ i = 3) → rg σ' k i = rg σ k i) ∧ (∀ k, k ≠ 62 → ar σ' k = ar σ k) ∧ (∀ i, i < j → ar σ' 62 i = ar σ 62 i) ∧ ∀ i, j ≤ i → i < 906 → ar σ' 62 i = ar σ 61 i
  | 0, n, j, hj, σ => by
    have e : j = 906 := by omega
    subst e
    refine ⟨srg σ 60 3 1, ?_, rg_s2 ⟨rfl, rfl⟩, fun k i h => rg_s1 h, fun k h => rfl, fun i h => rfl, fun i h1 h2 => by omega⟩
    show b_X7_image_2b N (b_X7_image_2 N n) _ _ = _
    exact if_T (of_eq_true (ile_T (Nat.le_refl 906) (by decide))) (gd_k rfl rfl)
  | m + 1, n, j, hj, σ => by
    have hjb : j < 906 := by omega
    obtain ⟨σ', e, h1, h2, h3, h4, h5⟩ := x_img7 (N := N) m n (j + 1) (by omega) (sar σ 62 j (ar σ 61 j))
    refine ⟨σ', ?_, h1, h2, fun k hk => (h3 k hk).trans (ar_sar_ne hk), fun i hi => ?_, fun i g1 g2 => ?_⟩
    · show b_X7_image_2b N (b_X7_image_2 N (n + m + 1)) _ _ = _
      unfold b_X7_image_2b
      refine if_F (of_eq_false (ile_F hjb (by decide))) (gd_k (inb_nI hjb (by decide)) (gd_k (inb_nI hjb (by decide)) (nm_k (nm_k ?_))))
      rw [nI_clamp (by omega), l_1, nI_add]
      exact e
    · rw [h4 i (by omega), ar_s1 (by omega)]
    · by_cases q : i = j
      · subst q
        rw [h4 i (by omega), ar_s2 ⟨rfl, rfl⟩]
      · rw [h5 i (by omega) g2, ar_s1 (by omega)]
theorem x_und7 {N : Nat} : ∀ m n j, j + m = 906 → ∀ σ : Sg, ∃ σ', b_X7_undo_12 N (n + m + 1) (nI j) σ = some (ar σ' 61 0, σ') ∧ rg σ' = rg σ ∧ (∀ k, k ≠ 61 → ar σ' k = ar σ k) ∧ (∀ i, i < j → ar σ' 61 i = ar σ 61 i) ∧ ∀ i, j ≤ i → i < 906 → ar σ' 61 i = ar σ 62 i
  | 0, n, j, hj, σ => by
    have e : j = 906 := by omega
    subst e
    refine ⟨σ, ?_, rfl, fun k h => rfl, fun i h => rfl, fun i h1 h2 => by omega⟩
    show b_X7_undo_12b N (b_X7_undo_12 N n) _ _ = _
    exact if_T (of_eq_true (ile_T (Nat.le_refl 906) (by decide))) (gd_k rfl rfl)
  | m + 1, n, j, hj, σ => by
    have hjb : j < 906 := by omega
    obtain ⟨σ', e, h2, h3, h4, h5⟩ := x_und7 (N := N) m n (j + 1) (by omega) (sar σ 61 j (ar σ 62 j))
    refine ⟨σ', ?_, h2, fun k hk => (h3 k hk).trans (ar_sar_ne hk), fun i hi => ?_, fun i g1 g2 => ?_⟩
    · show b_X7_undo_12b N (b_X7_undo_12 N (n + m + 1)) _ _ = _
      unfold b_X7_undo_12b
      refine if_F (of_eq_false (ile_F hjb (by decide))) (gd_k (inb_nI hjb (by decide)) (gd_k (inb_nI hjb (by decide)) (nm_k (nm_k ?_))))
      rw [nI_clamp (by omega), l_1, nI_add]
      exact e
    · rw [h4 i (by omega), ar_s1 (by omega)]
    · by_cases q : i = j
      · subst q
        rw [h4 i (by omega), ar_s2 ⟨rfl, rfl⟩]
      · rw [h5 i (by omega) g2, ar_s1 (by omega)]
theorem op_image {N : Nat} {σ : Sg} {A : Ab} (hI : Inv A σ) : Ok2 (f_X6_image (N + 1000)) (f_X7_image (N + 1000)) σ := by
  obtain ⟨⟨hS7, hD99, hT100, hW5, hZ7⟩, hAS, hAT, hAZ, hAW, hAW0⟩ := id hI.1
  obtain ⟨-, hC, hM, hK, r, hr, r1, r2, r3⟩ := id hI
  obtain ⟨⟨c1, c2, c3, c4, c5⟩, cS, cT, cZ, cW⟩ := id hC
  obtain ⟨⟨m1, m2, m3, m4, m5, m6⟩, mS, mT, mZ, mW⟩ := id hM
  obtain ⟨σ1, e1, f1, f2, f3, f4, f5, f6⟩ : ∃ σ1, f_X6_image (N + 1000) σ = some (rg σ 1 0, σ1) ∧ RC 2 18 4 31 A σ1 ∧ RC 1 10 3 26 A σ1 ∧ rg σ1 0 2 = 1 ∧ (rg σ1 9 0 = rg σ 9 0 ∧ rg σ1 60 34 = rg σ 60 34) ∧ ar σ1 61 = ar σ 61 ∧ ar σ1 59 = ar σ 59 ∧ ar σ1 82 = ar σ 82 ∧ ar σ1 38 = ar σ 38 := by
    refine ⟨_, rfl, ?_, ?_, rfl, ⟨rfl, rfl⟩, rfl, rfl, rfl, rfl⟩
    · exact hC.copy hI.1 rfl rfl rfl rfl rfl (lt8 (fun i hi => sb_cpy0 hi) (fun i hi => sb_cpy0 hi) (fun i hi => sb_cpy0 hi) (fun i hi => sb_cpy0 hi) (fun i hi => sb_cpy0 hi) (fun i hi => sb_cpy0 hi) (fun i hi => sb_cpy0 hi) (fun i hi => sb_cpy0 hi)) rfl rfl (lt4 (fun i hi => sb_cpy0 hi) (fun i hi => sb_cpy0 hi) (fun i hi => sb_cpy0 hi) (fun i hi => sb_cpy0 hi))
    · exact hC.copy hI.1 rfl rfl rfl rfl rfl (lt8 (fun i hi => rfl) (fun i hi => rfl) (fun i hi => rfl) (fun i hi => rfl) (fun i hi => rfl) (fun i hi => rfl) (fun i hi => rfl) (fun i hi => rfl)) rfl rfl (lt4 (fun i hi => rfl) (fun i hi => rfl) (fun i hi => rfl) (fun i hi => rfl))
  obtain ⟨σ2, e2, g1, g2, g3, g4, g5⟩ := x_img7 (N := N + 1000) 906 (N + 93) 0 (by omega) σ1
  rw [show N + 93 + 906 + 1 = N + 1000 by omega] at e2
  have hM1 : RM 61 A σ1 := hM.same f5
  refine ⟨nI (aS A), σ1, σ2, A, e1.trans (by rw [c1]), ?_, hI.1, ?_, hM1.same (g3 61 (by decide)), ⟨by rw [g3 38 (by decide), f6.2.2]; exact hK.1, Or.inr ⟨?_, g1, A, hI.1, ?_, hM1.copy hI.1 (fun i hi => g5 i (Nat.zero_le _) hi)⟩⟩, r, hr, ?_, ?_, fun i hi1 hi2 => ?_⟩
  · refine e2.trans ?_
    rw [hM1.1.1]
  · exact f2.same (fun j => g2 _ _ (by omega)) (fun k hk => g3 _ (by omega)) (fun j => g2 _ _ (by omega)) (fun k hk => g3 _ (by omega))
  · rw [g2 _ _ (by omega)]; exact f3
  · exact f1.same (fun j => g2 _ _ (by omega)) (fun k hk => g3 _ (by omega)) (fun j => g2 _ _ (by omega)) (fun k hk => g3 _ (by omega))
  · rw [g2 _ _ (by omega), f4.1]; exact r1
  · rw [g2 _ _ (by omega), f4.2]; exact r2
  · rw [g3 59 (by decide), g3 82 (by decide), f6.1, f6.2.1]; exact r3 i hi1 hi2
theorem op_undo {N : Nat} {σ : Sg} {A : Ab} (hI : Inv A σ) : Ok2 (f_X6_undo (N + 1000)) (f_X7_undo (N + 1000)) σ := by
  obtain ⟨-, hC, hM, hK, r, hr, r1, r2, r3⟩ := id hI
  obtain ⟨k0, hK⟩ := hK
  rcases hK with ⟨k1, k2⟩ | ⟨k1, k2, B, hB, hC2, hM2⟩
  · unfold f_X6_undo f_X7_undo
    exact ⟨-3, σ, σ, A, if_T k1 rfl, if_T k2 rfl, hI⟩
  obtain ⟨σ1, e1, f1, f2, f3, f4, f5, f6⟩ : ∃ σ1, bd (f_X4_copyFrom_v1 (N + 1000) σ) (fun σ18 => some (rg σ18 1 0, σ18)) = some (rg σ 2 0, σ1) ∧ RC 2 18 4 31 B σ1 ∧ RC 1 10 3 26 B σ1 ∧ rg σ1 0 2 = rg σ 0 2 ∧ (rg σ1 9 0 = rg σ 9 0 ∧ rg σ1 60 34 = rg σ 60 34 ∧ rg σ1 60 3 = rg σ 60 3) ∧ (ar σ1 61 = ar σ 61 ∧ ar σ1 62 = ar σ 62 ∧ ar σ1 38 = ar σ 38) ∧ ar σ1 59 = ar σ 59 ∧ ar σ1 82 = ar σ 82 := by
    refine ⟨_, rfl, ?_, ?_, rfl, ⟨rfl, rfl, rfl⟩, ⟨rfl, rfl, rfl⟩, rfl, rfl⟩
    · exact hC2.copy hB rfl rfl rfl rfl rfl (lt8 (fun i hi => rfl) (fun i hi => rfl) (fun i hi => rfl) (fun i hi => rfl) (fun i hi => rfl) (fun i hi => rfl) (fun i hi => rfl) (fun i hi => rfl)) rfl rfl (lt4 (fun i hi => rfl) (fun i hi => rfl) (fun i hi => rfl) (fun i hi => rfl))
    · exact hC2.copy hB rfl rfl rfl rfl rfl (lt8 (fun i hi => sb_cpy0 hi) (fun i hi => sb_cpy0 hi) (fun i hi => sb_cpy0 hi) (fun i hi => sb_cpy0 hi) (fun i hi => sb_cpy0 hi) (fun i hi => sb_cpy0 hi) (fun i hi => sb_cpy0 hi) (fun i hi => sb_cpy0 hi)) rfl rfl (lt4 (fun i hi => sb_cpy0 hi) (fun i hi => sb_cpy0 hi) (fun i hi => sb_cpy0 hi) (fun i hi => sb_cpy0 hi))
  obtain ⟨σ2, e2, g2, g3, g4, g5⟩ := x_und7 (N := N + 1000) 906 (N + 93) 0 (by omega) σ1
  rw [show N + 93 + 906 + 1 = N + 1000 by omega] at e2
  have hM1 : RM 62 B σ1 := hM2.same f5.2.1
  have hM3 : RM 61 B σ2 := hM1.copy hB (fun i hi => g5 i (Nat.zero_le _) hi)
  refine ⟨nI (aS B), σ1, σ2, B, ?_, ?_, hB, ?_, hM3, ⟨by rw [g3 38 (by decide), f5.2.2]; exact k0, Or.inr ⟨?_, ?_, B, hB, ?_, hM1.same (g3 62 (by decide))⟩⟩, r, hr, ?_, ?_, fun i hi1 hi2 => ?_⟩
  · unfold f_X6_undo
    refine if_F (by rw [k1]; decide) (e1.trans ?_)
    rw [hC2.1.1]
  · unfold f_X7_undo
    refine if_F (by rw [f4.2.2, k2]; decide) (e2.trans ?_)
    rw [hM3.1.1]
  · exact f2.same (fun j => by rw [g2]) (fun k hk => g3 _ (by omega)) (fun j => by rw [g2]) (fun k hk => g3 _ (by omega))
  · rw [g2, f3]; exact k1
  · rw [g2, f4.2.2]; exact k2
  · exact f1.same (fun j => by rw [g2]) (fun k hk => g3 _ (by omega)) (fun j => by rw [g2]) (fun k hk => g3 _ (by omega))
  · rw [g2, f4.1]; exact r1
  · rw [g2, f4.2.1]; exact r2
  · rw [g3 59 (by decide), g3 82 (by decide), f6.1, f6.2]; exact r3 i hi1 hi2
