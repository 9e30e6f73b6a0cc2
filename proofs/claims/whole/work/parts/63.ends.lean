/-! what a network's end says -/
abbrev PL (S v : Nat) : Prop := v = 7 ∨ v < S
def LE (S : Nat) (l : List Nat) : Prop := ∀ e ∈ l, e / 11 < S ∧ (e % 11 < 7 → e % 11 < S)
section EN
variable {S : Nat} {op : Nat → Nat → Bool} {st fi al : Nat → Nat} {xv : Nat → Int} {fines : Bool} {big R0 : Int}
theorem le_ends {l : List Nat} (hl : LE S l) {e : Nat} (he : e ∈ l) : PL S (nSr e) ∧ PL S (nDs e) := by
  obtain ⟨h1, h2⟩ := hl e he
  unfold PL nSr nDs
  constructor
  · split <;> omega
  · split
    · right
      exact h2 (by omega)
    · split <;> omega
theorem sgC_in {k e : Nat} (hS : S ≤ 7) (hk : k < S) (h : e ∈ sgC op fines S k) : e / 11 < S ∧ (e % 11 < 7 → e % 11 < S) := by
  have h0 := sgC_mem hS h
  refine ⟨by omega, fun h7 => ?_⟩
  rcases List.mem_append.mp h with h | h
  · rcases List.mem_append.mp h with h | h
    · rcases List.mem_cons.mp h with h | h
      · omega
      · have := List.mem_singleton.mp h
        omega
    · cases fines with
      | false => exact absurd h List.not_mem_nil
      | true =>
        rcases List.mem_cons.mp h with h | h
        · omega
        · have := List.mem_singleton.mp h
          omega
  · obtain ⟨i, h1, h2, h3⟩ := ldl_mem h
    omega
theorem esC_in (hS : S ≤ 7) : ∀ k, k ≤ S → LE S (esC op fines S k)
  | 0, _, e, h => absurd h List.not_mem_nil
  | k + 1, hk, e, h => by
    rcases List.mem_append.mp h with h | h
    · exact esC_in hS k (by omega) e h
    · exact sgC_in hS (by omega) h
theorem esM_in (hS : S ≤ 7) : LE S (esM op fines S S) := fun e h => esC_in (op := op) (fines := fines) hS S (Nat.le_refl S) e ((es_perm op fines S S).mem_iff.mpr h)
theorem esM_nodup (hS : S ≤ 7) : (esM op fines S S).Nodup := (es_perm op fines S S).nodup_iff.mp (esC_nodup hS S)
theorem esM_len (hS : S ≤ 7) (hop : ∀ k, k < S → op k k = false) : (esM op fines S S).length ≤ 70 := by
  rw [← (es_perm op fines S S).length_eq]
  have := esC_len (fines := fines) hS hop S (Nat.le_refl S)
  omega
theorem esC_fin (hS : S ≤ 7) {i : Nat} : ∀ k, i < k → 11 * i + 9 ∈ esC op true S k ∧ 11 * i + 10 ∈ esC op true S k
  | 0, h => absurd h (Nat.not_lt_zero i)
  | k + 1, h => by
    by_cases e : i = k
    · subst e
      have m1 : 11 * i + 9 ∈ sgC op true S i := List.mem_append_left _ (List.mem_append_right _ List.mem_cons_self)
      have m2 : 11 * i + 10 ∈ sgC op true S i := List.mem_append_left _ (List.mem_append_right _ (List.mem_cons_of_mem _ List.mem_cons_self))
      exact ⟨List.mem_append_right _ m1, List.mem_append_right _ m2⟩
    · obtain ⟨h1, h2⟩ := esC_fin hS k (i := i) (by omega)
      exact ⟨List.mem_append_left _ h1, List.mem_append_left _ h2⟩
theorem xx_sum (xv : Nat → Int) : ∀ k, k ≤ 7 → s8 (xx xv k) = 0
  | 0, _ => by
    refine (s8_congr (G := fun _ => 0) fun v _ => ?_).trans s8_zero
    unfold xx
    rw [if_neg (Nat.not_lt_zero v)]
    split
    · rfl
    · rfl
  | k + 1, h => by
    have ih := xx_sum xv k (by omega)
    have e1 : s8 (xx xv (k + 1)) = s8 (xx xv k) + s8 (fun v => if k = v then xv k else 0) - s8 (fun v => if 7 = v then xv k else 0) := by
      rw [← s8_add, ← s8_sub]
      refine s8_congr fun v _ => ?_
      have e2 : xx xv k k = 0 := by
        unfold xx
        rw [if_neg (Nat.lt_irrefl k), if_neg (by omega)]
      rw [xx_s xv (by omega)]
      by_cases q1 : v = k
      · subst q1
        rw [if_pos rfl, if_pos rfl, if_neg (by omega), e2]
        omega
      · rw [if_neg q1, if_neg (show ¬ k = v from fun w => q1 w.symm)]
        by_cases q2 : v = 7
        · subst q2
          rw [if_pos rfl, if_pos rfl]
          omega
        · rw [if_neg q2, if_neg (show ¬ 7 = v from fun w => q2 w.symm)]
          omega
    rw [e1, ih, s8_one (F := fun _ => xv k) (by omega : k < 8), s8_one (F := fun _ => xv k) (by omega : 7 < 8)]
    omega
theorem fbal_sum (sr ds : Nat → Nat) (f : Nat → Int) (l : List Nat) (hl : ∀ e ∈ l, sr e < 8 ∧ ds e < 8) : s8 (fbal sr ds f l) = 0 := by
  have h := f_exch sr ds f (fun _ => 1) l hl
  have h1 : sz (fun e => ((1 : Int) - 1) * f e) l = 0 := sz_0f fun e _ => by
    show (1 - 1 : Int) * f e = 0
    rw [Int.sub_self, Int.zero_mul]
  have h2 : s8 (fun v => 1 * fbal sr ds f l v) = s8 (fbal sr ds f l) := s8_congr fun v _ => Int.one_mul _
  rw [← h2, ← h]
  exact h1
theorem w_ends {l : List Nat} (hS : S ≤ 7) (hl : LE S l) : ∀ q ∈ List.range l.length, wS l q < 8 ∧ wD l q < 8 := fun q hq => n_ends (by have := (hl _ (getD_mem (List.mem_range.mp hq))).1; omega)
theorem ni_sum {l : List Nat} (hS : S ≤ 7) (hl : LE S l) {ex fl : Nat → Int} {S1 : Int} (h : NI l.length (wS l) (wD l) (wO st fi l) (wC al big l) (xx xv S) R0 ex fl S1) : s8 ex = 0 := by
  have e1 : s8 ex = s8 (xx xv S) + s8 (fbal (wS l) (wD l) fl (List.range l.length)) := by
    rw [← s8_add]
    exact s8_congr fun v hv => h.2.1 v hv
  rw [e1, xx_sum xv S hS, fbal_sum _ _ _ _ (w_ends hS hl)]
  rfl
theorem ni_out {l : List Nat} (hl : LE S l) {ex fl : Nat → Int} {S1 : Int} (h : NI l.length (wS l) (wD l) (wO st fi l) (wC al big l) (xx xv S) R0 ex fl S1) {v : Nat} (hv : v < 8) (hp : ¬ PL S v) : ex v = 0 := by
  rw [h.2.1 v hv]
  have e1 : xx xv S v = 0 := by
    unfold xx
    unfold PL at hp
    rw [if_neg (by omega), if_neg (by omega)]
  have e2 : fbal (wS l) (wD l) fl (List.range l.length) v = 0 := sz_0f fun q hq => by
    obtain ⟨h1, h2⟩ := le_ends hl (getD_mem (List.mem_range.mp hq))
    rw [if_neg (fun w : wD l q = v => hp (w ▸ h2)), if_neg (fun w : wS l q = v => hp (w ▸ h1))]
    rfl
  rw [e1, e2]
  rfl
theorem ni_zero {l : List Nat} (hS : S ≤ 7) (hl : LE S l) {ex fl : Nat → Int} {S1 : Int} (h : NI l.length (wS l) (wD l) (wO st fi l) (wC al big l) (xx xv S) R0 ex fl S1) (h0 : ∀ v, v < 8 → ex v ≤ 0) {v : Nat} (hv : v < 8) : ex v = 0 := by
  apply Classical.byContradiction
  intro q
  have h1 := ni_sum hS hl h
  have h2 : 0 < s8 (fun v => 0 - ex v) := s8_pos (k := v) (fun u hu => by have := h0 u hu; (try dsimp only); omega) hv (by have := h0 v hv; (try dsimp only); omega)
  rw [s8_sub (fun _ => 0) ex, s8_zero] at h2
  have h3 : s8 (fun v => ex v) = s8 ex := rfl
  omega
/-- an edge's two arcs -/
theorem arc2 (sr ds : Nat → Nat) (co cp fl : Nat → Int) (q : Nat) : (tlA sr ds (2 * q) = sr q ∧ hdA sr ds (2 * q) = ds q ∧ wtA co (2 * q) = co q ∧ rmA cp fl (2 * q) = cp q - fl q) ∧ (tlA sr ds (2 * q + 1) = ds q ∧ hdA sr ds (2 * q + 1) = sr q ∧ wtA co (2 * q + 1) = -(co q) ∧ rmA cp fl (2 * q + 1) = fl q) := by
  have e1 : 2 * q % 2 = 0 := by omega
  have e2 : 2 * q / 2 = q := by omega
  have e3 : ¬ (2 * q + 1) % 2 = 0 := by omega
  have e4 : (2 * q + 1) / 2 = q := by omega
  unfold tlA hdA wtA rmA
  rw [e2, e4, if_pos e1, if_pos e1, if_pos e1, if_pos e1, if_neg e3, if_neg e3, if_neg e3, if_neg e3]
  exact ⟨⟨rfl, rfl, rfl, rfl⟩, ⟨rfl, rfl, rfl, rfl⟩⟩
theorem ix_of {l : List Nat} {e : Nat} (he : e ∈ l) : l.idxOf e < l.length ∧ l.getD (l.idxOf e) 0 = e := by
  have h1 := List.idxOf_lt_length_iff.mpr he
  refine ⟨h1, ?_⟩
  rw [List.getD_eq_getElem?_getD, List.getElem?_eq_getElem h1]
  exact List.getElem_idxOf h1
theorem stk_arc {l : List Nat} {ex fl : Nat → Int} {s : Bs} (h : STK l.length (wS l) (wD l) (wC al big l) ex fl s) {e : Nat} (he : e ∈ l) : (fl (l.idxOf e) < nC al big e → s.1 (nSr e) < bfI → s.1 (nDs e) < bfI) ∧ (0 < fl (l.idxOf e) → s.1 (nDs e) < bfI → s.1 (nSr e) < bfI) := by
  obtain ⟨h1, h2⟩ := ix_of he
  obtain ⟨⟨a1, a2, -, a4⟩, b1, b2, -, b4⟩ := arc2 (wS l) (wD l) (wO (fun _ => 0) (fun _ => 0) l) (wC al big l) fl (l.idxOf e)
  have c1 := h.1 (2 * l.idxOf e) (by omega)
  have c2 := h.1 (2 * l.idxOf e + 1) (by omega)
  rw [a1, a2, a4] at c1
  rw [b1, b2, b4] at c2
  unfold wS wD wC at c1
  unfold wS wD at c2
  rw [h2] at c1 c2
  exact ⟨fun q => c1 (by omega), fun q => c2 q⟩
/-- with fines all is settled -/
theorem end_f {l : List Nat} (hS : S ≤ 7) (hl : LE S l) (hf : ∀ i, i < S → 11 * i + 9 ∈ l ∧ 11 * i + 10 ∈ l) (hb : R0 < big) {b : Bool} {S1 : Int} (hE : ENDS l.length (wS l) (wD l) (wO st fi l) (wC al big l) (xx xv S) R0 b S1) : b = true := by
  cases b with
  | true => rfl
  | false =>
    exfalso
    obtain ⟨ex, fl, hNI, -, h2⟩ := hE
    obtain ⟨s, hT⟩ := h2 rfl
    obtain ⟨-, c2, k, hk, hk1, hk2⟩ := id hT
    have hfl : ∀ e, e ∈ l → fl (l.idxOf e) < big := fun e he => by
      have h1 := hNI.2.2.2.1 _ (ix_of he).1
      have h2 := posS_nn ex
      omega
    have hub : s.1 7 < bfI := by
      by_cases hp : PL S k
      · rcases hp with hp | hp
        · rw [← hp]
          exact hk2
        · obtain ⟨n1, n2, -, n4⟩ := n_9 st fi al big k
          have h1 := (stk_arc hT (hf k hp).1).1
          rw [n1, n2, n4] at h1
          exact h1 (hfl _ (hf k hp).1) hk2
      · have := ni_out hl hNI hk hp
        omega
    have all : ∀ v, v < 8 → 0 ≤ ex v := fun v hv => by
      by_cases hp : PL S v
      · rcases hp with hp | hp
        · exact c2 v hv (by rw [hp]; exact hub)
        · obtain ⟨n1, n2, -, n4⟩ := n_10 st fi al big v
          have h1 := (stk_arc hT (hf v hp).2).1
          rw [n1, n2, n4] at h1
          exact c2 v hv (h1 (hfl _ (hf v hp).2) hub)
      · rw [ni_out hl hNI hv hp]
        exact Int.le_refl 0
    have := s8_pos all hk hk1
    have := ni_sum hS hl hNI
    omega
theorem nc_T {l : List Nat} (hS : S ≤ 7) (hn : l.Nodup) (hl : LE S l) {S1 : Int} (hE : ENDS l.length (wS l) (wD l) (wO st fi l) (wC al big l) (xx xv S) R0 true S1) : ∃ f, NC l nSr nDs (nCo st fi) (nC al big) (xx xv S) R0 (fun _ => 0) f S1 := by
  obtain ⟨ex, fl, hNI, h1, -⟩ := hE
  obtain ⟨a1, a2, a3, a4, a5⟩ := NC_of (Sr := nSr) (Ds := nDs) (Co := nCo st fi) (C := nC al big) hn hNI
  refine ⟨fun e => fl (l.idxOf e), a1, fun v hv => ?_, a3, fun e he => ?_, a5⟩
  · rw [← a2 v hv]
    exact (ni_zero hS hl hNI (h1 rfl) hv).symm
  · have h2 := a4 e he
    have h3 := posS_nn ex
    have h4 : posS (fun _ => 0) = 0 := rfl
    omega
theorem nc_F {l : List Nat} (hn : l.Nodup) {S1 : Int} (hE : ENDS l.length (wS l) (wD l) (wO st fi l) (wC al big l) (xx xv S) R0 false S1) : ∃ (ex f : Nat → Int) (s : Bs), NC l nSr nDs (nCo st fi) (nC al big) (xx xv S) R0 ex f S1 ∧ (∀ e ∈ l, f e < nC al big e → s.1 (nSr e) < bfI → s.1 (nDs e) < bfI) ∧ (∀ e ∈ l, 0 < f e → s.1 (nDs e) < bfI → s.1 (nSr e) < bfI) ∧ (∀ v, v < 8 → s.1 v < bfI → 0 ≤ ex v) ∧ ∃ k, k < 8 ∧ 0 < ex k ∧ s.1 k < bfI := by
  obtain ⟨ex, fl, hNI, -, h2⟩ := hE
  obtain ⟨s, hT⟩ := h2 rfl
  exact ⟨ex, fun e => fl (l.idxOf e), s, NC_of (Sr := nSr) (Ds := nDs) (Co := nCo st fi) (C := nC al big) hn hNI, fun e he => (stk_arc hT he).1, fun e he => (stk_arc hT he).2, hT.2.1, hT.2.2⟩
/-- class and model come to the same -/
theorem ends_eq {l l' : List Nat} (hS : S ≤ 7) (hp : l.Perm l') (hn : l.Nodup) (hl : LE S l) (hR : R0 < 1000000) {b b' : Bool} {S1 S2 : Int} (h1 : ENDS l.length (wS l) (wD l) (wO st fi l) (wC al 1000000 l) (xx xv S) R0 b S1) (h2 : ENDS l'.length (wS l') (wD l') (wO st fi l') (wC al 1000000000 l') (xx xv S) R0 b' S2) : b = b' ∧ (b = true → S1 = S2) := by
  have hn' : l'.Nodup := hp.nodup_iff.mp hn
  have hl' : LE S l' := fun e he => hl e (hp.mem_iff.mpr he)
  have hs : ∀ e ∈ l, nSr e < 8 ∧ nDs e < 8 := fun e he => n_ends (by have := (hl e he).1; omega)
  have hs' : ∀ e ∈ l', nSr e < 8 ∧ nDs e < 8 := fun e he => hs e (hp.mem_iff.mpr he)
  have hC1 : ∀ e ∈ l, nC al 1000000000 e ≤ nC al 1000000 e ∨ R0 < nC al 1000000 e := fun e _ => by
    unfold nC
    split
    · exact Or.inl (Int.le_refl _)
    · exact Or.inr hR
  have hC2 : ∀ e ∈ l', nC al 1000000 e ≤ nC al 1000000000 e ∨ R0 < nC al 1000000000 e := fun e _ => by
    unfold nC
    split
    · exact Or.inl (Int.le_refl _)
    · exact Or.inr (by omega)
  cases b with
  | true =>
    obtain ⟨f, hf⟩ := nc_T hS hn hl h1
    cases b' with
    | true =>
      obtain ⟨g, hg⟩ := nc_T hS hn' hl' h2
      refine ⟨rfl, fun _ => ?_⟩
      have k1 := NC_le hp hs hC1 hf hg
      have k2 := NC_le hp.symm hs' hC2 hg hf
      omega
    | false =>
      exfalso
      obtain ⟨ex, g, s, hg, c1, c2, c3, k, hk, hk1, hk2⟩ := nc_F hn' h2
      exact NC_cut hp.symm hs' hC2 hg hf c1 c2 c3 hk hk1 hk2
  | false =>
    obtain ⟨ex, f, s, hf, c1, c2, c3, k, hk, hk1, hk2⟩ := nc_F hn h1
    cases b' with
    | true =>
      exfalso
      obtain ⟨g, hg⟩ := nc_T hS hn' hl' h2
      exact NC_cut hp hs hC1 hf hg c1 c2 c3 hk hk1 hk2
    | false => exact ⟨rfl, fun w => by cases w⟩
/-- bounds of what each has too much -/
theorem sx_bnd (hx : ∀ k, k < S → -9999 ≤ xv k ∧ xv k ≤ 9999) : ∀ k, k ≤ S → -(9999 * (k : Int)) ≤ sx xv k ∧ sx xv k ≤ 9999 * (k : Int)
  | 0, _ => by
    show -(9999 * ((0 : Nat) : Int)) ≤ 0 ∧ (0 : Int) ≤ 9999 * ((0 : Nat) : Int)
    omega
  | k + 1, h => by
    have h1 := sx_bnd hx k (by omega)
    have h2 := hx k (by omega)
    show -(9999 * ((k + 1 : Nat) : Int)) ≤ sx xv k + xv k ∧ sx xv k + xv k ≤ 9999 * ((k + 1 : Nat) : Int)
    omega
theorem xx_bnd (hS : S ≤ 7) (hx : ∀ k, k < S → -9999 ≤ xv k ∧ xv k ≤ 9999) (v : Nat) : (-69993 ≤ xx xv S v ∧ xx xv S v ≤ 69993) ∧ (v ≠ 7 → xx xv S v ≤ 9999) := by
  have h1 := sx_bnd hx S (Nat.le_refl S)
  unfold xx
  by_cases q1 : v < S
  · rw [if_pos q1]
    have := hx v q1
    omega
  · rw [if_neg q1]
    by_cases q2 : v = 7
    · rw [if_pos q2]
      omega
    · rw [if_neg q2]
      omega
theorem xx_pos (hS : S ≤ 7) (hx : ∀ k, k < S → -9999 ≤ xv k ∧ xv k ≤ 9999) : posS (xx xv S) ≤ 140000 := by
  have h0 := (xx_bnd hS hx 0).2 (by decide)
  have h1 := (xx_bnd hS hx 1).2 (by decide)
  have h2 := (xx_bnd hS hx 2).2 (by decide)
  have h3 := (xx_bnd hS hx 3).2 (by decide)
  have h4 := (xx_bnd hS hx 4).2 (by decide)
  have h5 := (xx_bnd hS hx 5).2 (by decide)
  have h6 := (xx_bnd hS hx 6).2 (by decide)
  have h7 := (xx_bnd hS hx 7).1.2
  show max (xx xv S 0) 0 + max (xx xv S 1) 0 + max (xx xv S 2) 0 + max (xx xv S 3) 0 + max (xx xv S 4) 0 + max (xx xv S 5) 0 + max (xx xv S 6) 0 + max (xx xv S 7) 0 ≤ 140000
  omega
theorem w_cp {l : List Nat} (hl : LE S l) (hal : ∀ k, k < S → al k ≤ 9999) (hb : big ≤ 1000000000) : ∀ q, q < l.length → wC al big l q ≤ 1000000000 := fun q hq => by
  have h1 := (hl _ (getD_mem hq)).1
  have h2 := hal _ h1
  unfold wC nC
  split <;> omega
def pSo (k : Nat) : Bool := decide (k = 47 ∨ k = 48 ∨ k = 49 ∨ k = 50 ∨ k = 51 ∨ k = 52 ∨ k = 53)
/-- the class's solve -/
theorem c_solve {N : Nat} (hN1 : 140000 ≤ N) (hN2 : N < 900000) (hS : S ≤ 7) (hop : ∀ k, k < S → op k k = false) (hx : ∀ k, k < S → -9999 ≤ xv k ∧ xv k ≤ 9999) (hst : ∀ k, k < 7 → st k ≤ 1000) (hfi : ∀ k, k < 7 → fi k ≤ 1000) (hal : ∀ k, k < S → al k ≤ 9999) {σ : Sg} (hB : BN S op st fi al xv σ) : ∃ b S1 σ', f_X1_solve (N + 200) (nI fines.toNat) σ = some (zI (if b = true then S1 else -5), σ') ∧ OQ pSo qJ σ σ' ∧ ENDS (esC op fines S S).length (wS (esC op fines S S)) (wD (esC op fines S S)) (wO st fi (esC op fines S S)) (wC al 1000000 (esC op fines S S)) (xx xv S) (posS (xx xv S)) b S1 := by
  have hl := esC_in (op := op) (fines := fines) hS S (Nat.le_refl S)
  have hlen := esC_len (fines := fines) hS hop S (Nat.le_refl S)
  have hN : HN (esC op fines S S).length (wS (esC op fines S S)) (wD (esC op fines S S)) (wO st fi (esC op fines S S)) (wC al 1000000 (esC op fines S S)) := w_HN (fun e he => by have := (hl e he).1; omega) (by decide) hst hfi
  obtain ⟨σ1, e1, o1, g1, x1⟩ := c_build (N := N) (fines := fines) hS hop hB
  obtain ⟨b, S1, σ2, e2, o2, hE⟩ := cs_solve9 (N := N) (by omega) hN (w_cp hl hal (by decide)) N 199 0 (xx xv S) (fun _ => 0) 0 σ1 (by have := xx_pos hS hx; omega) (by omega) (NI_0 hN) (fun v _ => by have := (xx_bnd hS hx v).1; omega) g1 x1
  rw [show 199 + N + 1 = N + 200 by omega] at e2
  refine ⟨b, S1, σ2, ?_, (o1.mo fun q h => by unfold pSo at h; unfold pB; have := of_decide_eq_false h; exact decide_eq_false (by omega)).tr ((o2.oq qJ).mo fun q h => by unfold pSo at h; unfold pX; have := of_decide_eq_false h; exact decide_eq_false (by omega)), hE⟩
  unfold f_X1_solve
  refine bd_k e1 ?_
  rw [n00, ← z_0] at e2
  exact e2
end EN
