/-! the cheapest ways from anywhere to anywhere: plain mathematics -/
def dW (op : Nat → Nat → Bool) (w : Nat → Nat) (big i j : Nat) : Nat := if i = j then 0 else if op i j = true then w i else big
def fW (D : Nat → Nat → Nat) : Nat → Nat → Nat → Nat
  | 0 => D
  | n + 1 => fun i j => min (fW D n i j) (fW D n i n + fW D n n j)
theorem fW_s (D : Nat → Nat → Nat) (n i j : Nat) : fW D (n + 1) i j = min (fW D n i j) (fW D n i n + fW D n n j) := rfl
theorem fW_dn (D : Nat → Nat → Nat) (n i j : Nat) : fW D (n + 1) i j ≤ fW D n i j := by
  rw [fW_s]
  omega
theorem fW_le (D : Nat → Nat → Nat) (i j : Nat) : ∀ n, fW D n i j ≤ D i j
  | 0 => Nat.le_refl _
  | n + 1 => Nat.le_trans (fW_dn D n i j) (fW_le D i j n)
theorem fW_col (D : Nat → Nat → Nat) (n i : Nat) : fW D (n + 1) i n = fW D n i n := by
  rw [fW_s]
  omega
theorem fW_row (D : Nat → Nat → Nat) (n j : Nat) : fW D (n + 1) n j = fW D n n j := by
  rw [fW_s]
  omega
theorem fW_0 {D : Nat → Nat → Nat} {i : Nat} (h : D i i = 0) (n : Nat) : fW D n i i = 0 := by
  have := fW_le D i i n
  omega
theorem fW_tri (D : Nat → Nat → Nat) : ∀ n i j v, v < n → fW D n i j ≤ fW D n i v + fW D n v j
  | 0, i, j, v, h => absurd h (Nat.not_lt_zero v)
  | n + 1, i, j, v, h => by
    by_cases hv : v = n
    · subst hv
      rw [fW_col, fW_row, fW_s]
      omega
    · have h1 := fW_tri D n i j v (by omega)
      have h2 := fW_tri D n n j v (by omega)
      have h3 := fW_tri D n i n v (by omega)
      rw [fW_s, fW_s, fW_s]
      omega
/-- costs, costs with another number for 'by none', and how many steps -/
theorem fW_rel {op : Nat → Nat → Bool} {w : Nat → Nat} (hw : ∀ i, w i ≤ 991) : ∀ n, n ≤ 7 → ∀ i j, (fW (dW op w 1000000) n i j = fW (dW op w 1000000000) n i j ∧ fW (dW op w 1000000) n i j ≤ 991 * fW (dW op (fun _ => 1) 1000) n i j ∧ fW (dW op (fun _ => 1) 1000) n i j ≤ 2 ^ n) ∨ (fW (dW op w 1000000) n i j = 1000000 ∧ fW (dW op w 1000000000) n i j = 1000000000 ∧ fW (dW op (fun _ => 1) 1000) n i j = 1000)
  | 0, _, i, j => by
    show (dW op w 1000000 i j = dW op w 1000000000 i j ∧ dW op w 1000000 i j ≤ 991 * dW op (fun _ => 1) 1000 i j ∧ dW op (fun _ => 1) 1000 i j ≤ 2 ^ 0) ∨ (dW op w 1000000 i j = 1000000 ∧ dW op w 1000000000 i j = 1000000000 ∧ dW op (fun _ => 1) 1000 i j = 1000)
    by_cases h1 : i = j
    · have e : ∀ w b, dW op w b i j = 0 := fun w b => if_pos h1
      rw [e, e, e]
      left
      decide
    · by_cases h2 : op i j = true
      · have e : ∀ w b, dW op w b i j = w i := fun w b => (if_neg h1).trans (if_pos h2)
        rw [e, e, e]
        left
        have := hw i
        exact ⟨rfl, by omega, Nat.le_refl 1⟩
      · have e : ∀ w b, dW op w b i j = b := fun w b => (if_neg h1).trans (if_neg h2)
        rw [e, e, e]
        right
        exact ⟨rfl, rfl, rfl⟩
  | n + 1, hn, i, j => by
    have a := fW_rel (op := op) hw n (by omega) i j
    have b := fW_rel (op := op) hw n (by omega) i n
    have c := fW_rel (op := op) hw n (by omega) n j
    have p : 2 ^ n ≤ 64 := Nat.pow_le_pow_right (by decide : 0 < 2) (by omega : n ≤ 6)
    rw [fW_s, fW_s, fW_s, Nat.pow_succ]
    generalize fW (dW op w 1000000) n i j = a1 at *
    generalize fW (dW op w 1000000000) n i j = a2 at *
    generalize fW (dW op (fun _ => 1) 1000) n i j = a3 at *
    generalize fW (dW op w 1000000) n i n = b1 at *
    generalize fW (dW op w 1000000000) n i n = b2 at *
    generalize fW (dW op (fun _ => 1) 1000) n i n = b3 at *
    generalize fW (dW op w 1000000) n n j = c1 at *
    generalize fW (dW op w 1000000000) n n j = c2 at *
    generalize fW (dW op (fun _ => 1) 1000) n n j = c3 at *
    generalize 2 ^ n = q at *
    omega
/-- who comes last ahead of j -/
theorem fW_pred {op : Nat → Nat → Bool} : ∀ n i j, fW (dW op (fun _ => 1) 1000) n i j < 1000 → i = j ∨ ∃ u, op u j = true ∧ u ≠ j ∧ fW (dW op (fun _ => 1) 1000) n i u + 1 ≤ fW (dW op (fun _ => 1) 1000) n i j
  | 0, i, j, h => by
    by_cases h1 : i = j
    · exact Or.inl h1
    · have e : fW (dW op (fun _ => 1) 1000) 0 i j = if op i j = true then 1 else 1000 := by
        show dW op (fun _ => 1) 1000 i j = _
        unfold dW
        rw [if_neg h1]
      rw [e] at h ⊢
      by_cases h2 : op i j = true
      · rw [if_pos h2]
        refine Or.inr ⟨i, h2, h1, ?_⟩
        have : fW (dW op (fun _ => 1) 1000) 0 i i = 0 := if_pos rfl
        omega
      · rw [if_neg h2] at h
        omega
  | n + 1, i, j, h => by
    by_cases h1 : i = j
    · exact Or.inl h1
    right
    by_cases hlt : fW (dW op (fun _ => 1) 1000) n i j ≤ fW (dW op (fun _ => 1) 1000) n i n + fW (dW op (fun _ => 1) 1000) n n j
    · have e : fW (dW op (fun _ => 1) 1000) (n + 1) i j = fW (dW op (fun _ => 1) 1000) n i j := by rw [fW_s]; omega
      rw [e] at h ⊢
      rcases fW_pred (op := op) n i j h with h2 | ⟨u, h2, h3, h4⟩
      · exact absurd h2 h1
      · exact ⟨u, h2, h3, Nat.le_trans (Nat.add_le_add_right (fW_dn _ n i u) 1) h4⟩
    · have e : fW (dW op (fun _ => 1) 1000) (n + 1) i j = fW (dW op (fun _ => 1) 1000) n i n + fW (dW op (fun _ => 1) 1000) n n j := by rw [fW_s]; omega
      rw [e] at h ⊢
      rcases fW_pred (op := op) n n j (by omega) with h2 | ⟨u, h2, h3, h4⟩
      · subst h2
        omega
      · refine ⟨u, h2, h3, ?_⟩
        have : fW (dW op (fun _ => 1) 1000) (n + 1) i u ≤ fW (dW op (fun _ => 1) 1000) n i n + fW (dW op (fun _ => 1) 1000) n n u := by rw [fW_s]; omega
        omega
def ctn (p : Nat → Bool) : Nat → Nat
  | 0 => 0
  | n + 1 => ctn p n + (p n).toNat
theorem b_nat (b : Bool) : b.toNat ≤ 1 := by cases b <;> decide
theorem ctn_le (p : Nat → Bool) : ∀ n, ctn p n ≤ n
  | 0 => Nat.le_refl _
  | n + 1 => by
    have h1 := ctn_le p n
    have h2 := b_nat (p n)
    show ctn p n + (p n).toNat ≤ n + 1
    omega
theorem ctn_lt {p : Nat → Bool} {v : Nat} (hp : p v = false) : ∀ n, v < n → ctn p n + 1 ≤ n
  | 0, h => absurd h (Nat.not_lt_zero v)
  | n + 1, h => by
    show ctn p n + (p n).toNat + 1 ≤ n + 1
    by_cases e : v = n
    · subst e
      have := ctn_le p v
      rw [hp]
      show ctn p v + 0 + 1 ≤ v + 1
      omega
    · have h1 := ctn_lt hp n (by omega)
      have h2 := b_nat (p n)
      omega
theorem ctn_mono {p q : Nat → Bool} (h : ∀ v, p v = true → q v = true) : ∀ n, ctn p n ≤ ctn q n
  | 0 => Nat.le_refl _
  | n + 1 => by
    have h1 := ctn_mono h n
    show ctn p n + (p n).toNat ≤ ctn q n + (q n).toNat
    cases hp : p n
    · show ctn p n + 0 ≤ _
      omega
    · rw [h n hp]
      omega
theorem ctn_inc {p q : Nat → Bool} (h : ∀ v, p v = true → q v = true) {v : Nat} (hp : p v = false) (hq : q v = true) : ∀ n, v < n → ctn p n + 1 ≤ ctn q n
  | 0, h => absurd h (Nat.not_lt_zero v)
  | n + 1, hv => by
    show ctn p n + (p n).toNat + 1 ≤ ctn q n + (q n).toNat
    by_cases e : v = n
    · subst e
      have := ctn_mono h v
      rw [hp, hq]
      show ctn p v + 0 + 1 ≤ ctn q v + 1
      omega
    · have h1 := ctn_inc h hp hq n (by omega)
      cases hpn : p n
      · show ctn p n + 0 + 1 ≤ _
        omega
      · rw [h n hpn]
        omega
/-- a way that is there has six steps at most -/
theorem fW_six {op : Nat → Nat → Bool} {S : Nat} (hS : S ≤ 7) (hop : ∀ u v, op u v = true → u < S ∧ v < S) {i j : Nat} (hi : i < S) (hj : j < S) (h : fW (dW op (fun _ => 1) 1000) S i j < 1000) : fW (dW op (fun _ => 1) 1000) S i j ≤ 6 := by
  have lev : ∀ m t, t + m = fW (dW op (fun _ => 1) 1000) S i j → ∃ v, v < S ∧ fW (dW op (fun _ => 1) 1000) S i v = t := by
    intro m
    induction m with
    | zero =>
      intro t ht
      exact ⟨j, hj, by omega⟩
    | succ m ih =>
      intro t ht
      obtain ⟨v, hv, hvt⟩ := ih (t + 1) (by omega)
      rcases fW_pred (op := op) S i v (by omega) with h1 | ⟨u, h1, h2, h3⟩
      · subst h1
        have h0 := fW_0 (D := dW op (fun _ => 1) 1000) (i := i) (if_pos rfl) S
        omega
      · have hu := (hop u v h1).1
        have t1 := fW_tri (dW op (fun _ => 1) 1000) S i v u hu
        have t2 := fW_le (dW op (fun _ => 1) 1000) u v S
        have t3 : dW op (fun _ => 1) 1000 u v = 1 := by
          unfold dW
          rw [if_neg h2, if_pos h1]
        exact ⟨u, hu, by omega⟩
  have cnt : ∀ t, t ≤ fW (dW op (fun _ => 1) 1000) S i j → t ≤ ctn (fun v => decide (fW (dW op (fun _ => 1) 1000) S i v < t)) S := by
    intro t
    induction t with
    | zero =>
      intro _
      exact Nat.zero_le _
    | succ t ih =>
      intro ht
      have h1 := ih (by omega)
      obtain ⟨v, hv, hvt⟩ := lev (fW (dW op (fun _ => 1) 1000) S i j - t) t (by omega)
      have h2 := ctn_inc (p := fun v => decide (fW (dW op (fun _ => 1) 1000) S i v < t)) (q := fun v => decide (fW (dW op (fun _ => 1) 1000) S i v < t + 1)) (fun x hx => decide_eq_true (by have := of_decide_eq_true hx; omega)) (v := v) (decide_eq_false (by omega)) (decide_eq_true (by omega)) S hv
      omega
  have h1 := cnt _ (Nat.le_refl _)
  have h2 := ctn_lt (p := fun v => decide (fW (dW op (fun _ => 1) 1000) S i v < fW (dW op (fun _ => 1) 1000) S i j)) (v := j) (decide_eq_false (by omega)) S hj
  omega
def opq (A : Ab) (i j : Nat) : Bool := decide (i < aS A) && decide (j < aS A) && opB A i j
theorem opq_in {A : Ab} {i j : Nat} (hi : i < aS A) (hj : j < aS A) : opq A i j = opB A i j := by
  unfold opq
  rw [decide_eq_true hi, decide_eq_true hj]
  rfl
theorem opq_lt {A : Ab} (i j : Nat) (h : opq A i j = true) : i < aS A ∧ j < aS A := by
  unfold opq at h
  rw [Bool.and_eq_true, Bool.and_eq_true, decide_eq_true_eq, decide_eq_true_eq] at h
  exact h.1
/-- the class's numbers, the model's -/
def wy (A : Ab) (i j : Nat) : Nat := fW (dW (opq A) (ste A) 1000000) (aS A) i j
def wm (A : Ab) (i j : Nat) : Nat := fW (dW (opq A) (ste A) 1000000000) (aS A) i j
theorem wy_rel {A : Ab} (hA : AOK A) {i j : Nat} (hi : i < aS A) (hj : j < aS A) : (wy A i j = wm A i j ∧ wy A i j ≤ 5946) ∨ (wy A i j = 1000000 ∧ wm A i j = 1000000000) := by
  rcases fW_rel (op := opq A) (ste_le hA) (aS A) hA.1.1 i j with ⟨h1, h2, h3⟩ | ⟨h1, h2, h3⟩
  · left
    refine ⟨h1, ?_⟩
    have hp : 2 ^ aS A ≤ 2 ^ 7 := Nat.pow_le_pow_right (by decide) hA.1.1
    have h4 := fW_six (op := opq A) hA.1.1 opq_lt hi hj (by omega)
    have : fW (dW (opq A) (ste A) 1000000) (aS A) i j ≤ 5946 := by omega
    exact this
  · exact Or.inr ⟨h1, h2⟩
theorem wy_0 (A : Ab) (i : Nat) : wy A i i = 0 := fW_0 (D := dW (opq A) (ste A) 1000000) (i := i) (if_pos rfl) _
theorem dW_le {op : Nat → Nat → Bool} {w : Nat → Nat} {big : Nat} (hb : ∀ i, w i ≤ big) (i j : Nat) : dW op w big i j ≤ big := by
  unfold dW
  split
  · exact Nat.zero_le _
  split
  · exact hb i
  · exact Nat.le_refl _
theorem imin_nI {a b : Nat} (ha : a < 2 ^ 31) (hb : b < 2 ^ 31) : imin (nI a) (nI b) = nI (min a b) := by
  unfold imin
  by_cases h : b < a
  · rw [if_pos (of_eq_true (ilt_T h ha)), Nat.min_eq_right (by omega)]
  · rw [if_neg (of_eq_false (ilt_F (by omega) hb)), Nat.min_eq_left (by omega)]
/-! the loops: the class's -/
def fE (D : Nat → Nat → Nat) (o i0 j0 i j : Nat) : Nat := if i < i0 ∨ (i = i0 ∧ j < j0) then fW D (o + 1) i j else fW D o i j
theorem fE_col (D : Nat → Nat → Nat) (o i0 j0 i : Nat) : fE D o i0 j0 i o = fW D o i o := by
  unfold fE
  rw [fW_col]
  split <;> rfl
theorem fE_row (D : Nat → Nat → Nat) (o i0 j0 j : Nat) : fE D o i0 j0 o j = fW D o o j := by
  unfold fE
  rw [fW_row]
  split <;> rfl
theorem fE_at (D : Nat → Nat → Nat) (o i j : Nat) : fE D o i j i j = fW D o i j := if_neg (by omega)
theorem fE_ne {D : Nat → Nat → Nat} {o i j a b : Nat} (h : ¬ (a = i ∧ b = j)) : fE D o i (j + 1) a b = fE D o i j a b := by
  unfold fE
  by_cases q : a < i ∨ (a = i ∧ b < j)
  · rw [if_pos q, if_pos (by omega)]
  · rw [if_neg q, if_neg (by omega)]
theorem fE_eq (D : Nat → Nat → Nat) (o i j : Nat) : fE D o i (j + 1) i j = fW D (o + 1) i j := if_pos (by omega)
theorem fE_end {D : Nat → Nat → Nat} {o i S a b : Nat} (hb : b < S) : fE D o i S a b = fE D o (i + 1) 0 a b := by
  unfold fE
  by_cases q : a < i ∨ (a = i ∧ b < S)
  · rw [if_pos q, if_pos (by omega)]
  · rw [if_neg q, if_neg (by omega)]
theorem fE_nx {D : Nat → Nat → Nat} {o S a b : Nat} (ha : a < S) : fE D o S 0 a b = fE D (o + 1) 0 0 a b := by
  unfold fE
  rw [if_pos (Or.inl ha), if_neg (by omega)]
theorem fE_0 (D : Nat → Nat → Nat) (o a b : Nat) : fE D o 0 0 a b = fW D o a b := if_neg (by omega)
def F6 (D : Nat → Nat → Nat) (S o i0 j0 : Nat) (σ : Sg) : Prop := ∀ i j, i < S → j < S → ar σ 55 (i * 7 + j) = nI (fE D o i0 j0 i j)
theorem x_price6 {N : Nat} {σ : Sg} {i j : Nat} {v : Int32} (hi : i < 7) (hj : j < 7) (h : ar σ 55 (i * 7 + j) = v) : f_X3_price N (nI i) (nI j) σ = some (v, σ) := by
  unfold f_X3_price
  rw [l_7, pk_mul, nI_add]
  refine gd_k (inb_nI (by omega) (by decide)) ?_
  rw [nI_clamp (by omega), h]
theorem x_fl129 {N S : Nat} {D : Nat → Nat → Nat} (hS7 : S ≤ 7) (hb : ∀ i j, D i j ≤ 1000000) (k108 : Int32 → Sg → Option Sg) (k118 : Int32 → Int32 → Sg → Option Sg) {o i : Nat} (ho : o < S) (hi : i < S) : ∀ m n j σ, j + m = S → rg σ 8 0 = nI S → F6 D S o i j σ → ∃ σ', b_X3_load_129 N k108 k118 (n + m + 1) (nI o) (nI i) (nI j) σ = k118 (nI o) (nI (i + 1)) σ' ∧ OR 55 σ σ' ∧ F6 D S o (i + 1) 0 σ'
  | 0, n, j, σ, hj, h8, hF => by
    have e : j = S := by omega
    subst e
    refine ⟨σ, ?_, OR.rf 55 σ, fun a b ha hb => by rw [hF a b ha hb, fE_end hb]⟩
    show b_X3_load_129b N k108 k118 (b_X3_load_129 N k108 k118 n) _ _ _ _ = _
    unfold b_X3_load_129b
    rw [h8]
    refine if_T (of_eq_true (ile_T (Nat.le_refl _) (by omega))) (nm_k ?_)
    rw [l_1, nI_add]
  | m + 1, n, j, σ, hj, h8, hF => by
    have hjS : j < S := by omega
    have b1 := Nat.le_trans (fW_le D i o o) (hb i o)
    have b2 := Nat.le_trans (fW_le D o j o) (hb o j)
    have b3 := Nat.le_trans (fW_le D i j o) (hb i j)
    have o1 : OR 55 σ (sar σ 55 (i * 7 + j) (nI (fW D (o + 1) i j))) := (OR.rf 55 σ).sar _ _
    have p1 := hF i o hi ho
    have p2 := hF o j ho hjS
    have p3 := hF i j hi hjS
    rw [fE_col] at p1
    rw [fE_row] at p2
    rw [fE_at] at p3
    obtain ⟨σ2, e2, o2, hF2⟩ := x_fl129 hS7 hb k108 k118 ho hi m n (j + 1) (sar σ 55 (i * 7 + j) (nI (fW D (o + 1) i j))) (by omega) h8 (fun a b ha hb => by
      by_cases q : a = i ∧ b = j
      · obtain ⟨rfl, rfl⟩ := q
        rw [ar_s2 ⟨rfl, rfl⟩, fE_eq]
      · rw [ar_s1 (by omega), hF a b ha hb, fE_ne q])
    refine ⟨σ2, ?_, o1.tr o2, hF2⟩
    show b_X3_load_129b N k108 k118 (b_X3_load_129 N k108 k118 (n + m + 1)) _ _ _ _ = _
    unfold b_X3_load_129b
    rw [h8]
    refine if_F (of_eq_false (ile_F hjS (by omega))) (bd2_k (x_price6 (by omega) (by omega) p1) (bd2_k (x_price6 (by omega) (by omega) p2) (nm_k (bd2_k (x_price6 (by omega) (by omega) p3) ?_))))
    rw [l_7, pk_mul, nI_add, nI_add, nI_clamp (by omega), imin_nI (by omega) (by omega), ← fW_s, l_1, nI_add]
    exact gd_k (inb_nI (by omega) (by decide)) (nm_k (nm_k e2))
theorem x_fl118 {N S : Nat} {D : Nat → Nat → Nat} (hS7 : S ≤ 7) (hb : ∀ i j, D i j ≤ 1000000) (k108 : Int32 → Sg → Option Sg) {o : Nat} (ho : o < S) : ∀ m n i σ, i + m = S → rg σ 8 0 = nI S → F6 D S o i 0 σ → ∃ σ', b_X3_load_118 (N + 200) k108 (n + m + 1) (nI o) (nI i) σ = k108 (nI (o + 1)) σ' ∧ OR 55 σ σ' ∧ F6 D S (o + 1) 0 0 σ'
  | 0, n, i, σ, hj, h8, hF => by
    have e : i = S := by omega
    subst e
    refine ⟨σ, ?_, OR.rf 55 σ, fun a b ha hb => by rw [hF a b ha hb, fE_nx ha]⟩
    show b_X3_load_118b (N + 200) k108 (b_X3_load_118 (N + 200) k108 n) _ _ _ = _
    unfold b_X3_load_118b
    rw [h8]
    refine if_T (of_eq_true (ile_T (Nat.le_refl _) (by omega))) (nm_k ?_)
    rw [l_1, nI_add]
  | m + 1, n, i, σ, hj, h8, hF => by
    have hi : i < S := by omega
    obtain ⟨σ1, e1, o1, hF1⟩ := x_fl129 (N := N + 200) hS7 hb k108 (b_X3_load_118 (N + 200) k108 (n + m + 1)) ho hi S (N + 199 - S) 0 σ (by omega) h8 hF
    rw [show N + 199 - S + S + 1 = N + 200 by omega] at e1
    obtain ⟨σ2, e2, o2, hF2⟩ := x_fl118 hS7 hb k108 ho m n (i + 1) σ1 (by omega) (by rw [o1.1]; exact h8) hF1
    refine ⟨σ2, ?_, o1.tr o2, hF2⟩
    show b_X3_load_118b (N + 200) k108 (b_X3_load_118 (N + 200) k108 (n + m + 1)) _ _ _ = _
    unfold b_X3_load_118b
    rw [h8]
    exact if_F (of_eq_false (ile_F hi (by omega))) (e1.trans e2)
theorem x_fl108 {N S : Nat} {D : Nat → Nat → Nat} (hS7 : S ≤ 7) (hb : ∀ i j, D i j ≤ 1000000) : ∀ m n o σ, o + m = S → rg σ 8 0 = nI S → F6 D S o 0 0 σ → ∃ σ', b_X3_load_108 (N + 200) (n + m + 1) (nI o) σ = some σ' ∧ OR 55 σ σ' ∧ ∀ i j, i < S → j < S → ar σ' 55 (i * 7 + j) = nI (fW D S i j)
  | 0, n, o, σ, hj, h8, hF => by
    have e : o = S := by omega
    subst e
    refine ⟨σ, ?_, OR.rf 55 σ, fun a b ha hb => by rw [hF a b ha hb, fE_0]⟩
    show b_X3_load_108b (N + 200) (b_X3_load_108 (N + 200) n) _ _ = _
    unfold b_X3_load_108b
    rw [h8]
    exact if_T (of_eq_true (ile_T (Nat.le_refl _) (by omega))) rfl
  | m + 1, n, o, σ, hj, h8, hF => by
    have ho : o < S := by omega
    obtain ⟨σ1, e1, o1, hF1⟩ := x_fl118 (N := N) hS7 hb (b_X3_load_108 (N + 200) (n + m + 1)) ho S (N + 199 - S) 0 σ (by omega) h8 hF
    rw [show N + 199 - S + S + 1 = N + 200 by omega] at e1
    obtain ⟨σ2, e2, o2, hF2⟩ := x_fl108 hS7 hb m n (o + 1) σ1 (by omega) (by rw [o1.1]; exact h8) hF1
    refine ⟨σ2, ?_, o1.tr o2, hF2⟩
    show b_X3_load_108b (N + 200) (b_X3_load_108 (N + 200) (n + m + 1)) _ _ = _
    unfold b_X3_load_108b
    rw [h8]
    exact if_F (of_eq_false (ile_F ho (by omega))) (e1.trans e2)
theorem x_ld38 {N : Nat} {A : Ab} (hA : AOK A) (k10 : Int32 → Sg → Option Sg) {i : Nat} (hi : i < aS A) : ∀ m n j σ, j + m = aS A → rg σ 8 0 = nI (aS A) → ar σ 54 i = nI (opS A i) → ∃ σ', b_X3_load_38 N k10 (n + m + 1) (nI i) (nI (ste A i)) (nI j) σ = k10 (nI (i + 1)) σ' ∧ OR 55 σ σ' ∧ (∀ q, j ≤ q → q < aS A → ar σ' 55 (i * 7 + q) = nI (dW (opq A) (ste A) 1000000 i q)) ∧ ∀ x, (x < i * 7 + j ∨ i * 7 + 7 ≤ x) → ar σ' 55 x = ar σ 55 x
  | 0, n, j, σ, hj, h8, h54 => by
    have hS7 := hA.1.1
    have e : j = aS A := by omega
    subst e
    refine ⟨σ, ?_, OR.rf 55 σ, fun q h1 h2 => by omega, fun x _ => rfl⟩
    show b_X3_load_38b N k10 (b_X3_load_38 N k10 n) _ _ _ _ = _
    unfold b_X3_load_38b
    rw [h8]
    refine if_T (of_eq_true (ile_T (Nat.le_refl _) (by omega))) (nm_k ?_)
    rw [l_1, nI_add]
  | m + 1, n, j, σ, hj, h8, h54 => by
    have hS7 := hA.1.1
    have hjS : j < aS A := by omega
    have o1 : OR 55 σ (sar σ 55 (i * 7 + j) (nI (dW (opq A) (ste A) 1000000 i j))) := (OR.rf 55 σ).sar _ _
    obtain ⟨σ2, e2, o2, g2, g3⟩ := x_ld38 (N := N) hA k10 hi m n (j + 1) (sar σ 55 (i * 7 + j) (nI (dW (opq A) (ste A) 1000000 i j))) (by omega) h8 (by rw [ar_sar_ne (by decide)]; exact h54)
    refine ⟨σ2, ?_, o1.tr o2, fun q h1 h2 => ?_, fun x hx => ?_⟩
    · show b_X3_load_38b N k10 (b_X3_load_38 N k10 (n + m + 1)) _ _ _ _ = _
      have go : ∀ (v : Int32), v = nI (dW (opq A) (ste A) 1000000 i j) → b_X3_load_93 N k10 (b_X3_load_38 N k10 (n + m + 1)) (nI i) (nI (ste A i)) (nI j) ((nI i * 7) + nI j) v σ = k10 (nI (i + 1)) σ2 := by
        intro v hv
        unfold b_X3_load_93
        rw [l_7, pk_mul, nI_add, nI_clamp (by omega), hv, l_1, nI_add]
        exact gd_k (inb_nI (by omega) (by decide)) (nm_k (nm_k e2))
      have hs : opS A i < 128 := p2_le hS7 (setB_lt _ _)
      have hbit : (opS A i).testBit j = opB A i j := by
        show (setB (opB A i) (aS A)).testBit j = _
        rw [setB_bit, decide_eq_true hjS, Bool.true_and]
      unfold b_X3_load_38b b_X3_load_68
      rw [h8]
      refine if_F (of_eq_false (ile_F hjS (by omega))) (gd_k (inb_nI (by omega) (by decide)) ?_)
      rw [nI_clamp (by omega), h54, l_31, l_1, bit_1 _ hs j (by omega), hbit]
      by_cases hij : i = j
      · have ed : dW (opq A) (ste A) 1000000 i j = 0 := if_pos hij
        cases hb : opB A i j
        · refine if_F (by decide) (if_T (by rw [hij]) (go _ ?_))
          rw [ed]
          rfl
        · refine if_T rfl (if_T (by rw [hij]) (go _ ?_))
          rw [ed]
          rfl
      · have hij' : ¬ nI i = nI j := of_eq_false (ieq_F hij (by omega) (by omega))
        cases hb : opB A i j
        · refine if_F (by decide) (if_F hij' (go _ ?_))
          rw [show dW (opq A) (ste A) 1000000 i j = 1000000 from (if_neg hij).trans (if_neg (by rw [opq_in hi hjS, hb]; decide))]
          rfl
        · refine if_T rfl (if_F hij' (go _ ?_))
          rw [show dW (opq A) (ste A) 1000000 i j = ste A i from (if_neg hij).trans (if_pos (by rw [opq_in hi hjS, hb]))]
    · by_cases hq : q = j
      · subst hq
        rw [g3 _ (by omega), ar_s2 ⟨rfl, rfl⟩]
      · exact g2 q (by omega) h2
    · rw [g3 x (by omega), ar_s1 (by omega)]
/-- what the class's routes hold -/
def CR (A : Ab) (σ : Sg) : Prop := rg σ 8 0 = nI (aS A) ∧ (∀ i, i < aS A → ar σ 54 i = nI (opS A i)) ∧ ∀ i j, i < aS A → j < aS A → ar σ 55 (i * 7 + j) = nI (wy A i j)
theorem x_ld10 {N : Nat} {A : Ab} (hA : AOK A) : ∀ m n i σ, i + m = aS A → RC 1 10 3 26 A σ → rg σ 8 0 = nI (aS A) → (∀ a, a < i → ar σ 54 a = nI (opS A a)) → (∀ a b, a < i → b < aS A → ar σ 55 (a * 7 + b) = nI (dW (opq A) (ste A) 1000000 a b)) → ∃ σ', b_X3_load_10 (N + 200) (n + m + 1) (nI i) σ = some σ' ∧ Sm σ σ' ∧ CR A σ'
  | 0, n, i, σ, hj, hC, h8, h54, h55 => by
    have hS7 := hA.1.1
    have e : i = aS A := by omega
    subst e
    have hst := ste_le hA
    obtain ⟨σ1, e1, o1, g1⟩ := x_fl108 (N := N) (S := aS A) (D := dW (opq A) (ste A) 1000000) hS7 (dW_le (fun i => by have := hst i; omega)) (aS A) (N + 199 - aS A) 0 σ (by omega) h8 (fun a b ha hb => by rw [h55 a b ha hb, fE_0]; rfl)
    rw [show N + 199 - aS A + aS A + 1 = N + 200 by omega] at e1
    refine ⟨σ1, ?_, o1.sm (by decide), by rw [o1.1]; exact h8, fun a ha => by rw [o1.2.2 54 (by decide)]; exact h54 a ha, g1⟩
    show b_X3_load_10b (N + 200) (b_X3_load_10 (N + 200) n) _ _ = _
    unfold b_X3_load_10b
    rw [h8]
    exact if_T (of_eq_true (ile_T (Nat.le_refl _) (by omega))) e1
  | m + 1, n, i, σ, hj, hC, h8, h54, h55 => by
    have hS7 := hA.1.1
    have hi : i < aS A := by omega
    have m1 : Sm σ (sar σ 54 i (nI (opS A i))) := (Sm.rf σ).sar i _ (by decide)
    obtain ⟨σ2, e2, o2⟩ := x_st6 (N := N) hA (hC.smc m1) hi
    have r2 : rg σ2 8 0 = nI (aS A) := by
      rw [o2.1]
      exact h8
    have q54 : ∀ a, ar σ2 54 a = if a = i then nI (opS A i) else ar σ 54 a := by
      intro a
      rw [o2.2.2 54 (by decide), ar_sar]
      simp only [true_and]
    have q55 : ∀ a, ar σ2 55 a = ar σ 55 a := by
      intro a
      rw [o2.2.2 55 (by decide), ar_sar_ne (by decide)]
    obtain ⟨σ3, e3, o3, g3, g4⟩ := x_ld38 (N := N + 200) hA (b_X3_load_10 (N + 200) (n + m + 1)) hi (aS A) (N + 199 - aS A) 0 σ2 (by omega) r2 (by rw [q54, if_pos rfl])
    rw [show N + 199 - aS A + aS A + 1 = N + 200 by omega] at e3
    have m3 : Sm σ σ3 := (m1.tr o2.sm).tr (o3.sm (by decide))
    obtain ⟨σ4, e4, m4, c4⟩ := x_ld10 (N := N) hA m n (i + 1) σ3 (by omega) (hC.smc m3) (by rw [o3.1]; exact r2) (fun a ha => by
      rw [o3.2.2 54 (by decide), q54]
      by_cases q : a = i
      · rw [if_pos q, q]
      · rw [if_neg q]
        exact h54 a (by omega)) (fun a b ha hb => by
      by_cases q : a = i
      · subst q
        exact g3 b (Nat.zero_le _) hb
      · rw [g4 _ (by omega), q55]
        exact h55 a b (by omega) hb)
    refine ⟨σ4, ?_, m3.tr m4, c4⟩
    show b_X3_load_10b (N + 200) (b_X3_load_10 (N + 200) (n + m + 1)) _ _ = _
    unfold b_X3_load_10b
    rw [h8]
    refine if_F (of_eq_false (ile_F hi (by omega))) (bd2_k (x_from6 (N := N + 192) hA hC hi) (gd_k (inb_nI (by omega) (by decide)) (nm_k ?_)))
    rw [nI_clamp (by omega)]
    exact bd2_k e2 (e3.trans e4)
theorem x_load3 {N : Nat} {σ : Sg} {A : Ab} (hA : AOK A) (hC : RC 1 10 3 26 A σ) : ∃ σ', f_X3_load (N + 200) σ = some σ' ∧ Sm σ σ' ∧ CR A σ' := by
  have hS7 := hA.1.1
  have m1 : Sm σ (srg σ 8 0 (nI (aS A))) := (Sm.rf σ).srg _ (by decide)
  obtain ⟨σ', e, m2, hB⟩ := x_ld10 (N := N) hA (aS A) (N + 199 - aS A) 0 (srg σ 8 0 (nI (aS A))) (by omega) (hC.smc m1) (rg_s2 ⟨rfl, rfl⟩) (fun i hi => absurd hi (Nat.not_lt_zero i)) (fun i _ hi => absurd hi (Nat.not_lt_zero i))
  rw [show N + 199 - aS A + aS A + 1 = N + 200 by omega] at e
  refine ⟨σ', ?_, m1.tr m2, hB⟩
  unfold f_X3_load
  refine nm_k ?_
  rw [hC.1.1]
  exact e
