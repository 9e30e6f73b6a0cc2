/-! plain mathematics: a step of the cheapest goings: search, send -/
section ST
variable (n : Nat) (sr ds : Nat → Nat) (co cp : Nat → Int)
def tlA (a : Nat) : Nat := if a % 2 = 0 then sr (a / 2) else ds (a / 2)
def hdA (a : Nat) : Nat := if a % 2 = 0 then ds (a / 2) else sr (a / 2)
def wtA (a : Nat) : Int := if a % 2 = 0 then co (a / 2) else -(co (a / 2))
def rmA (fl : Nat → Int) (a : Nat) : Int := if a % 2 = 0 then cp (a / 2) - fl (a / 2) else fl (a / 2)
def rsA (fl : Nat → Int) (a : Nat) : Bool := decide (0 < rmA cp fl a)
def HN : Prop := ∀ q, q < n → sr q < 8 ∧ ds q < 8 ∧ 0 ≤ co q ∧ co q ≤ 1000 ∧ 0 ≤ cp q
def PO (p fl : Nat → Int) : Prop := ∀ q, q < n → (fl q < cp q → 0 ≤ co q + p (sr q) - p (ds q)) ∧ (0 < fl q → co q + p (sr q) - p (ds q) ≤ 0)
def sB0 (ex : Nat → Int) : Bs := (fun v => if 0 < ex v then 0 else bfI, fun _ => none)
/-- what a search has found -/
def FS (ex fl : Nat → Int) (s : Bs) (rk : Nat → Nat) : Prop :=
  (∀ v, v < 8 → s.2 v = none → s.1 v = bfI ∨ (s.1 v = 0 ∧ 0 < ex v)) ∧
  (∀ v a, v < 8 → s.2 v = some a → a < 2 * n ∧ hdA sr ds a = v ∧ 0 < rmA cp fl a ∧ s.1 (tlA sr ds a) + wtA co a = s.1 v ∧ s.1 (tlA sr ds a) < bfI ∧ s.1 v < bfI ∧ rk (tlA sr ds a) < rk v) ∧
  (∀ a, a < 2 * n → 0 < rmA cp fl a → s.1 (tlA sr ds a) < bfI → s.1 (hdA sr ds a) ≤ s.1 (tlA sr ds a) + wtA co a) ∧
  (∀ v, v < 8 → 0 < ex v → s.1 v ≤ 0) ∧
  (∀ v, v < 8 → rk v ≤ 7 ∧ -7000 ≤ s.1 v ∧ (s.1 v = bfI ∨ s.1 v ≤ 7000))
end ST
section SL
variable {n : Nat} {sr ds : Nat → Nat} {co cp : Nat → Int}
theorem tlA_lt (hN : HN n sr ds co cp) {a : Nat} (ha : a < 2 * n) : tlA sr ds a < 8 ∧ hdA sr ds a < 8 ∧ -1000 ≤ wtA co a ∧ wtA co a ≤ 1000 := by
  obtain ⟨h1, h2, h3, h4, h5⟩ := hN (a / 2) (by omega)
  unfold tlA hdA wtA
  by_cases h : a % 2 = 0
  · rw [if_pos h, if_pos h, if_pos h]
    omega
  · rw [if_neg h, if_neg h, if_neg h]
    omega
theorem po_arc {p fl : Nat → Int} (hP : PO n sr ds co cp p fl) {a : Nat} (ha : a < 2 * n) (hr : 0 < rmA cp fl a) : 0 ≤ wtA co a + p (tlA sr ds a) - p (hdA sr ds a) := by
  obtain ⟨h1, h2⟩ := hP (a / 2) (by omega)
  unfold rmA at hr
  unfold tlA hdA wtA
  by_cases h : a % 2 = 0
  · rw [if_pos h] at hr
    rw [if_pos h, if_pos h, if_pos h]
    exact h1 (by omega)
  · rw [if_neg h] at hr
    rw [if_neg h, if_neg h, if_neg h]
    have := h2 hr
    omega
theorem fs_of (hN : HN n sr ds co cp) {p fl ex : Nat → Int} (hP : PO n sr ds co cp p fl) {k : Nat} {s : Bs} (hs : s = bfn (tlA sr ds) (hdA sr ds) (wtA co) (rsA cp fl) (List.range (2 * n)) k (sB0 ex)) (hc : bfc (tlA sr ds) (hdA sr ds) (wtA co) (rsA cp fl) (List.range (2 * n)) s = false) : ∃ rk, FS n sr ds co cp ex fl s rk := by
  have hL : ∀ a ∈ List.range (2 * n), tlA sr ds a < 8 ∧ hdA sr ds a < 8 ∧ (rsA cp fl a = true → 0 ≤ wtA co a + p (tlA sr ds a) - p (hdA sr ds a)) := fun a ha => by
    have ha' := List.mem_range.mp ha
    exact ⟨(tlA_lt hN ha').1, (tlA_lt hN ha').2.1, fun hr => po_arc hP ha' (of_decide_eq_true hr)⟩
  have hJ0 : bfJ (tlA sr ds) (hdA sr ds) (wtA co) (rsA cp fl) (fun v => decide (0 < ex v)) p (List.range (2 * n)) (sB0 ex) := by
    refine ⟨fun v _ => ?_, fun v _ h => ?_, fun v _ _ => ?_, (fun v a _ h => by cases h), fun _ => 0, 0, fun _ => Nat.le_refl 0, (fun v a _ h => by cases h)⟩
    · show (if 0 < ex v then 0 else bfI) ≤ bfI
      unfold bfI
      split <;> omega
    · show (if 0 < ex v then 0 else bfI) ≤ 0
      rw [if_pos (of_decide_eq_true h)]
      exact Int.le_refl 0
    · show (if 0 < ex v then 0 else bfI) = bfI ∨ ((if 0 < ex v then 0 else bfI) = 0 ∧ decide (0 < ex v) = true)
      by_cases h : 0 < ex v
      · right
        rw [if_pos h]
        exact ⟨rfl, decide_eq_true h⟩
      · left
        rw [if_neg h]
  have hJ := bfn_J hL hJ0 k
  rw [← hs] at hJ
  obtain ⟨-, hF⟩ := bfc_false _ _ hc
  have hlow := fun v (hv : v < 8) => bfJ_low (fun a ha => ⟨(hL a ha).1, (tlA_lt hN (List.mem_range.mp ha)).2.2.1⟩) hJ hv
  obtain ⟨j0, j4, j1, j2, t, T, jt, j3⟩ := hJ
  have tight : ∀ v a, v < 8 → s.2 v = some a → s.1 (tlA sr ds a) + wtA co a = s.1 v := by
    intro v a hv ha
    obtain ⟨k1, k2, k3, k4, k5, k6⟩ := j2 v a hv ha
    have hf := hF a k1
    have hn : ¬ (s.1 (tlA sr ds a) + wtA co a < s.1 v) := fun q => by
      have : bfg (tlA sr ds) (hdA sr ds) (wtA co) (rsA cp fl) a s = true := bfg_iff.mpr ⟨k3, k5, by rw [k2]; exact q⟩
      rw [hf] at this
      cases this
    omega
  have rk7 : ∀ v, v < 8 → 0 ≤ bfk (fun x => s.1 x - p x) t v ∧ bfk (fun x => s.1 x - p x) t v ≤ 7 := fun v hv => bfk_in _ t hv
  have up : ∀ (m : Nat) (v : Nat), v < 8 → bfk (fun x => s.1 x - p x) t v ≤ m → s.1 v = bfI ∨ s.1 v ≤ 1000 * (m : Int) := by
    intro m
    induction m with
    | zero =>
      intro v hv hk
      cases h2 : s.2 v with
      | none =>
        rcases j1 v hv h2 with h | h
        · exact Or.inl h
        · right
          omega
      | some a =>
        have h1 := j2 v a hv h2
        have h3 := bfk_lt (hL a h1.1).1 (j3 v a hv h2)
        have h4 := (rk7 _ (hL a h1.1).1).1
        omega
    | succ m ih =>
      intro v hv hk
      cases h2 : s.2 v with
      | none =>
        rcases j1 v hv h2 with h | h
        · exact Or.inl h
        · right
          omega
      | some a =>
        have h1 := j2 v a hv h2
        have h3 := bfk_lt (hL a h1.1).1 (j3 v a hv h2)
        have h4 := tight v a hv h2
        have h5 := (tlA_lt hN (List.mem_range.mp h1.1)).2.2.2
        rcases ih _ (hL a h1.1).1 (by omega) with h6 | h6
        · have := h1.2.2.2.2.1
          omega
        · right
          omega
  refine ⟨fun v => (bfk (fun x => s.1 x - p x) t v).toNat, fun v hv h => ?_, fun v a hv h => ?_, fun a ha hr ht => ?_, fun v hv h => j4 v hv (decide_eq_true h), fun v hv => ?_⟩
  · rcases j1 v hv h with h | h
    · exact Or.inl h
    · exact Or.inr ⟨h.1, of_decide_eq_true h.2⟩
  · obtain ⟨k1, k2, k3, k4, k5, k6⟩ := j2 v a hv h
    have h3 := bfk_lt (hL a k1).1 (j3 v a hv h)
    have h4 := rk7 _ (hL a k1).1
    have h5 := rk7 _ hv
    exact ⟨List.mem_range.mp k1, k2, of_decide_eq_true k3, tight v a hv h, k5, k6, by show (bfk _ t _).toNat < (bfk _ t v).toNat; omega⟩
  · have hf := hF a (List.mem_range.mpr ha)
    apply Classical.byContradiction
    intro q
    have : bfg (tlA sr ds) (hdA sr ds) (wtA co) (rsA cp fl) a s = true := bfg_iff.mpr ⟨decide_eq_true hr, ht, by omega⟩
    rw [hf] at this
    cases this
  · have h1 := rk7 v hv
    have h2 := up 7 v hv (by omega)
    refine ⟨by show (bfk _ t v).toNat ≤ 7; omega, hlow v hv, ?_⟩
    rcases h2 with h2 | h2
    · exact Or.inl h2
    · exact Or.inr (by omega)
end SL
/-! the way back from the end -/
section PA
variable (sr ds : Nat → Nat) (cp : Nat → Int) (s : Bs)
def pRoot : Nat → Nat → Nat
  | 0, v => v
  | k + 1, v => match s.2 v with
    | none => v
    | some a => pRoot k (tlA sr ds a)
def pAmt (fl : Nat → Int) : Nat → Nat → Int → Int
  | 0, _, m => m
  | k + 1, v, m => match s.2 v with
    | none => m
    | some a => pAmt fl k (tlA sr ds a) (min m (rmA cp fl a))
def updA (g : Nat → Int) (a : Nat) (amt : Int) : Nat → Int := fun q => if q = a / 2 then (if a % 2 = 0 then g q + amt else g q - amt) else g q
def pUpd (amt : Int) : Nat → Nat → (Nat → Int) → Nat → Int
  | 0, _, g => g
  | k + 1, v, g => match s.2 v with
    | none => g
    | some a => pUpd amt k (tlA sr ds a) (updA g a amt)
end PA
section PL
variable {n : Nat} {sr ds : Nat → Nat} {co cp : Nat → Int} {s : Bs} {ex fl : Nat → Int} {rk : Nat → Nat}
theorem pRoot_none {k v : Nat} (h : s.2 v = none) : pRoot sr ds s (k + 1) v = v := by
  unfold pRoot
  rw [h]
theorem pRoot_some {k v a : Nat} (h : s.2 v = some a) : pRoot sr ds s (k + 1) v = pRoot sr ds s k (tlA sr ds a) := by
  rw [pRoot]
  rw [h]
theorem pAmt_none {k v : Nat} {m : Int} (h : s.2 v = none) : pAmt sr ds cp s fl (k + 1) v m = m := by
  unfold pAmt
  rw [h]
theorem pAmt_some {k v a : Nat} {m : Int} (h : s.2 v = some a) : pAmt sr ds cp s fl (k + 1) v m = pAmt sr ds cp s fl k (tlA sr ds a) (min m (rmA cp fl a)) := by
  rw [pAmt]
  rw [h]
theorem pUpd_none {k v : Nat} {amt : Int} {g : Nat → Int} (h : s.2 v = none) : pUpd sr ds s amt (k + 1) v g = g := by
  unfold pUpd
  rw [h]
theorem pUpd_some {k v a : Nat} {amt : Int} {g : Nat → Int} (h : s.2 v = some a) : pUpd sr ds s amt (k + 1) v g = pUpd sr ds s amt k (tlA sr ds a) (updA g a amt) := by
  rw [pUpd]
  rw [h]
theorem pRoot_P (hN : HN n sr ds co cp) (hF : FS n sr ds co cp ex fl s rk) : ∀ k v, v < 8 → s.1 v < bfI → rk v < k → pRoot sr ds s k v < 8 ∧ s.2 (pRoot sr ds s k v) = none ∧ s.1 (pRoot sr ds s k v) = 0 ∧ 0 < ex (pRoot sr ds s k v)
  | 0, v, hv, h1, h2 => absurd h2 (Nat.not_lt_zero _)
  | k + 1, v, hv, h1, h2 => by
    cases h : s.2 v with
    | none =>
      rw [pRoot_none h]
      rcases hF.1 v hv h with q | q
      · omega
      · exact ⟨hv, h, q.1, q.2⟩
    | some a =>
      rw [pRoot_some h]
      obtain ⟨a1, a2, a3, a4, a5, a6, a7⟩ := hF.2.1 v a hv h
      exact pRoot_P hN hF k _ (tlA_lt hN a1).1 a5 (by omega)
theorem pAmt_P (hN : HN n sr ds co cp) (hF : FS n sr ds co cp ex fl s rk) : ∀ k v m, v < 8 → pAmt sr ds cp s fl k v m ≤ m ∧ (0 < m → 0 < pAmt sr ds cp s fl k v m)
  | 0, v, m, hv => ⟨Int.le_refl _, fun h => h⟩
  | k + 1, v, m, hv => by
    cases h : s.2 v with
    | none =>
      rw [pAmt_none h]
      exact ⟨Int.le_refl _, fun h => h⟩
    | some a =>
      rw [pAmt_some h]
      obtain ⟨a1, a2, a3, a4, a5, a6, a7⟩ := hF.2.1 v a hv h
      obtain ⟨h1, h2⟩ := pAmt_P hN hF k (tlA sr ds a) (min m (rmA cp fl a)) (tlA_lt hN a1).1
      exact ⟨by omega, fun hm => h2 (by omega)⟩
theorem updA_at {g : Nat → Int} {a : Nat} {amt : Int} : updA g a amt (a / 2) = if a % 2 = 0 then g (a / 2) + amt else g (a / 2) - amt := if_pos rfl
theorem updA_ne {g : Nat → Int} {a q : Nat} {amt : Int} (h : q ≠ a / 2) : updA g a amt q = g q := if_neg h
/-- what has changed behind a sending, edge by edge -/
theorem pUpd_ch (hN : HN n sr ds co cp) (hF : FS n sr ds co cp ex fl s rk) {amt : Int} : ∀ k v m g, v < 8 → amt ≤ pAmt sr ds cp s fl k v m → ∀ q, pUpd sr ds s amt k v g q = g q ∨ (pUpd sr ds s amt k v g q = g q + amt ∧ s.2 (ds q) = some (2 * q) ∧ rk (ds q) ≤ rk v ∧ q < n ∧ amt ≤ cp q - fl q) ∨ (pUpd sr ds s amt k v g q = g q - amt ∧ s.2 (sr q) = some (2 * q + 1) ∧ rk (sr q) ≤ rk v ∧ q < n ∧ amt ≤ fl q)
  | 0, v, m, g, hv, hm, q => Or.inl rfl
  | k + 1, v, m, g, hv, hm, q => by
    cases h : s.2 v with
    | none =>
      rw [pUpd_none h]
      exact Or.inl rfl
    | some a =>
      rw [pAmt_some h] at hm
      rw [pUpd_some h]
      obtain ⟨a1, a2, a3, a4, a5, a6, a7⟩ := hF.2.1 v a hv h
      have htl := (tlA_lt hN a1).1
      have ih := pUpd_ch hN hF k (tlA sr ds a) (min m (rmA cp fl a)) (updA g a amt) htl hm q
      have hr := (pAmt_P (m := min m (rmA cp fl a)) hN hF k (tlA sr ds a) htl).1
      have hroom : amt ≤ rmA cp fl a := by omega
      by_cases hq : q = a / 2
      · by_cases hp : a % 2 = 0
        · have ea : a = 2 * q := by omega
          have e1 : hdA sr ds a = ds q := by unfold hdA; rw [if_pos hp, hq]
          have e2 : tlA sr ds a = sr q := by unfold tlA; rw [if_pos hp, hq]
          have e3 : updA g a amt q = g q + amt := by rw [hq, updA_at, if_pos hp]
          have e4 : rmA cp fl a = cp q - fl q := by unfold rmA; rw [if_pos hp, hq]
          rw [e1] at a2
          rcases ih with ih | ⟨i1, i2, i3, -⟩ | ⟨i1, i2, i3, -⟩
          · right; left
            exact ⟨ih.trans e3, by rw [a2, h, ea], by rw [a2]; exact Nat.le_refl _, by omega, by omega⟩
          · rw [a2] at i3
            omega
          · exfalso
            rw [e2] at i3 a7
            have hb := hF.2.1 (sr q) (2 * q + 1) (by rw [← e2]; exact htl) i2
            have e5 : tlA sr ds (2 * q + 1) = ds q := by unfold tlA; rw [if_neg (by omega)]; congr 1; omega
            have h7 := hb.2.2.2.2.2.2
            rw [e5, a2] at h7
            omega
        · have ea : a = 2 * q + 1 := by omega
          have e1 : hdA sr ds a = sr q := by unfold hdA; rw [if_neg hp, hq]
          have e2 : tlA sr ds a = ds q := by unfold tlA; rw [if_neg hp, hq]
          have e3 : updA g a amt q = g q - amt := by rw [hq, updA_at, if_neg hp]
          have e4 : rmA cp fl a = fl q := by unfold rmA; rw [if_neg hp, hq]
          rw [e1] at a2
          rcases ih with ih | ⟨i1, i2, i3, -⟩ | ⟨i1, i2, i3, -⟩
          · right; right
            exact ⟨ih.trans e3, by rw [a2, h, ea], by rw [a2]; exact Nat.le_refl _, by omega, by omega⟩
          · exfalso
            rw [e2] at i3 a7
            have hb := hF.2.1 (ds q) (2 * q) (by rw [← e2]; exact htl) i2
            have e5 : tlA sr ds (2 * q) = sr q := by unfold tlA; rw [if_pos (by omega)]; congr 1; omega
            have h7 := hb.2.2.2.2.2.2
            rw [e5, a2] at h7
            omega
          · rw [a2] at i3
            omega
      · rw [updA_ne hq] at ih
        rcases ih with ih | ⟨i1, i2, i3, i4⟩ | ⟨i1, i2, i3, i4⟩
        · exact Or.inl ih
        · exact Or.inr (Or.inl ⟨i1, i2, by omega, i4⟩)
        · exact Or.inr (Or.inr ⟨i1, i2, by omega, i4⟩)
/-- sums over the edges behind one arc's change -/
theorem sz_upd (F : Nat → Int → Int) (g : Nat → Int) (a : Nat) (amt : Int) : ∀ m, a / 2 < m → sz (fun q => F q (updA g a amt q)) (List.range m) = sz (fun q => F q (g q)) (List.range m) + (F (a / 2) (updA g a amt (a / 2)) - F (a / 2) (g (a / 2)))
  | 0, h => absurd h (Nat.not_lt_zero _)
  | m + 1, h => by
    rw [List.range_succ, sz_app, sz_app]
    by_cases e : a / 2 = m
    · have e1 : sz (fun q => F q (updA g a amt q)) (List.range m) = sz (fun q => F q (g q)) (List.range m) := sz_congr fun q hq => by
        have := List.mem_range.mp hq
        rw [updA_ne (show q ≠ a / 2 by omega)]
      rw [e1]
      show _ + (F m (updA g a amt m) + 0) = _ + (F m (g m) + 0) + _
      rw [e]
      omega
    · rw [sz_upd F g a amt m (by omega)]
      show _ + (F m (updA g a amt m) + 0) = _ + (F m (g m) + 0) + _
      rw [updA_ne (show m ≠ a / 2 by omega)]
      omega
theorem fbal_upd (g : Nat → Int) {a : Nat} (ha : a < 2 * n) (amt : Int) (v : Nat) : fbal sr ds (updA g a amt) (List.range n) v = fbal sr ds g (List.range n) v + ((if hdA sr ds a = v then amt else 0) - (if tlA sr ds a = v then amt else 0)) := by
  unfold fbal
  rw [sz_upd (fun q f => (if ds q = v then f else 0) - (if sr q = v then f else 0)) g a amt n (by omega), updA_at]
  unfold hdA tlA
  by_cases h : a % 2 = 0
  · rw [if_pos h, if_pos h, if_pos h]
    (try dsimp only)
    split <;> split <;> omega
  · rw [if_neg h, if_neg h, if_neg h]
    (try dsimp only)
    split <;> split <;> omega
theorem cost_upd (g : Nat → Int) {a : Nat} (ha : a < 2 * n) (amt : Int) : sz (fun q => co q * updA g a amt q) (List.range n) = sz (fun q => co q * g q) (List.range n) + wtA co a * amt := by
  rw [sz_upd (fun q f => co q * f) g a amt n (by omega), updA_at]
  unfold wtA
  by_cases h : a % 2 = 0
  · rw [if_pos h, if_pos h]
    (try dsimp only)
    rw [Int.mul_add]
    omega
  · rw [if_neg h, if_neg h]
    (try dsimp only)
    rw [Int.mul_sub, Int.neg_mul]
    omega
theorem pUpd_bal (hN : HN n sr ds co cp) (hF : FS n sr ds co cp ex fl s rk) {amt : Int} : ∀ k v g, v < 8 → s.1 v < bfI → rk v < k → (∀ u, fbal sr ds (pUpd sr ds s amt k v g) (List.range n) u = fbal sr ds g (List.range n) u + ((if v = u then amt else 0) - (if pRoot sr ds s k v = u then amt else 0))) ∧ sz (fun q => co q * pUpd sr ds s amt k v g q) (List.range n) = sz (fun q => co q * g q) (List.range n) + s.1 v * amt
  | 0, v, g, hv, h1, h2 => absurd h2 (Nat.not_lt_zero _)
  | k + 1, v, g, hv, h1, h2 => by
    cases h : s.2 v with
    | none =>
      rw [pUpd_none h, pRoot_none h]
      rcases hF.1 v hv h with q | q
      · omega
      · rw [q.1]
        exact ⟨fun u => by omega, by omega⟩
    | some a =>
      rw [pUpd_some h, pRoot_some h]
      obtain ⟨a1, a2, a3, a4, a5, a6, a7⟩ := hF.2.1 v a hv h
      obtain ⟨i1, i2⟩ := pUpd_bal hN hF (amt := amt) k (tlA sr ds a) (updA g a amt) (tlA_lt hN a1).1 a5 (by omega)
      refine ⟨fun u => ?_, ?_⟩
      · rw [i1 u, fbal_upd g a1, a2]
        omega
      · rw [i2, cost_upd g a1, ← a4, Int.add_mul]
        omega
end PL
