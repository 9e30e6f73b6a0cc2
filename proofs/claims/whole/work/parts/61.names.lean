/-! the network's edges by name: 11 k + t -/
def nSr (e : Nat) : Nat := if e % 11 = 8 ∨ e % 11 = 10 then 7 else e / 11
def nDs (e : Nat) : Nat := if e % 11 < 7 then e % 11 else if e % 11 = 8 ∨ e % 11 = 10 then e / 11 else 7
def nCo (st fi : Nat → Nat) (e : Nat) : Int := if e % 11 < 7 then (st (e / 11) : Int) else if e % 11 < 9 then 0 else (fi (e / 11) : Int)
def nC (al : Nat → Nat) (big : Int) (e : Nat) : Int := if e % 11 = 7 ∨ e % 11 = 8 then (al (e / 11) : Int) else big
def ldl (p : Nat → Bool) (b : Nat) : Nat → List Nat
  | 0 => []
  | j + 1 => ldl p b j ++ (if p j = true then [b + j] else [])
def fnl (fines : Bool) (k : Nat) : List Nat := if fines = true then [11 * k + 9, 11 * k + 10] else []
def sgC (op : Nat → Nat → Bool) (fines : Bool) (S k : Nat) : List Nat := ([11 * k + 7, 11 * k + 8] ++ fnl fines k) ++ ldl (op k) (11 * k) S
def sgM (op : Nat → Nat → Bool) (fines : Bool) (S k : Nat) : List Nat := ldl (op k) (11 * k) S ++ ([11 * k + 7, 11 * k + 8] ++ fnl fines k)
def esC (op : Nat → Nat → Bool) (fines : Bool) (S : Nat) : Nat → List Nat
  | 0 => []
  | k + 1 => esC op fines S k ++ sgC op fines S k
def esM (op : Nat → Nat → Bool) (fines : Bool) (S : Nat) : Nat → List Nat
  | 0 => []
  | k + 1 => esM op fines S k ++ sgM op fines S k
theorem es_perm (op : Nat → Nat → Bool) (fines : Bool) (S : Nat) : ∀ k, (esC op fines S k).Perm (esM op fines S k)
  | 0 => List.Perm.refl _
  | k + 1 => (es_perm op fines S k).append List.perm_append_comm
theorem ldl_mem {p : Nat → Bool} {b : Nat} : ∀ {j e : Nat}, e ∈ ldl p b j → ∃ i, i < j ∧ p i = true ∧ e = b + i
  | 0, e, h => absurd h List.not_mem_nil
  | j + 1, e, h => by
    rcases List.mem_append.mp h with h | h
    · obtain ⟨i, h1, h2, h3⟩ := ldl_mem h
      exact ⟨i, by omega, h2, h3⟩
    · cases hp : p j with
      | false =>
        rw [hp] at h
        exact absurd h List.not_mem_nil
      | true =>
        rw [hp] at h
        exact ⟨j, by omega, hp, List.mem_singleton.mp h⟩
theorem ldl_len (p : Nat → Bool) (b : Nat) : ∀ j, (ldl p b j).length = ctn p j
  | 0 => rfl
  | j + 1 => by
    show (ldl p b j ++ _).length = ctn p j + (p j).toNat
    rw [List.length_append, ldl_len p b j]
    cases p j <;> rfl
theorem ldl_nodup (p : Nat → Bool) (b : Nat) : ∀ j, (ldl p b j).Nodup
  | 0 => List.nodup_nil
  | j + 1 => by
    refine List.nodup_append.mpr ⟨ldl_nodup p b j, ?_, fun x hx y hy q => ?_⟩
    · split
      · exact List.nodup_cons.mpr ⟨List.not_mem_nil, List.nodup_nil⟩
      · exact List.nodup_nil
    · obtain ⟨i, h1, h2, h3⟩ := ldl_mem hx
      cases hp : p j with
      | false =>
        rw [hp] at hy
        exact absurd hy List.not_mem_nil
      | true =>
        rw [hp] at hy
        have := List.mem_singleton.mp hy
        omega
theorem ctn_up (p : Nat → Bool) {j : Nat} : ∀ (n : Nat), j ≤ n → ctn p j ≤ ctn p n
  | 0, h => by
    have e : j = 0 := by omega
    subst e
    exact Nat.le_refl _
  | n + 1, h => by
    by_cases q : j = n + 1
    · subst q
      exact Nat.le_refl _
    · have := ctn_up p (j := j) n (by omega)
      show ctn p j ≤ ctn p n + (p n).toNat
      omega
theorem fnl_len (fines : Bool) (k : Nat) : (fnl fines k).length ≤ 2 := by
  cases fines with
  | false => exact Nat.zero_le 2
  | true => exact Nat.le_refl 2
theorem sgC_len {op : Nat → Nat → Bool} {fines : Bool} {S k : Nat} (hS : S ≤ 7) (hk : k < S) (hop : op k k = false) : (sgC op fines S k).length ≤ 10 := by
  have h1 := fnl_len fines k
  have h2 := ctn_lt (p := op k) hop S hk
  unfold sgC
  rw [List.length_append, List.length_append, ldl_len]
  show (2 + _) + _ ≤ 10
  omega
theorem esC_len {op : Nat → Nat → Bool} {fines : Bool} {S : Nat} (hS : S ≤ 7) (hop : ∀ k, k < S → op k k = false) : ∀ k, k ≤ S → (esC op fines S k).length ≤ 10 * k
  | 0, _ => Nat.le_refl _
  | k + 1, h => by
    have h1 := esC_len (fines := fines) hS hop k (by omega)
    have h2 := sgC_len (fines := fines) hS (show k < S by omega) (hop k (by omega))
    show (esC op fines S k ++ sgC op fines S k).length ≤ _
    rw [List.length_append]
    omega
theorem sgC_mem {op : Nat → Nat → Bool} {fines : Bool} {S k e : Nat} (hS : S ≤ 7) (h : e ∈ sgC op fines S k) : e / 11 = k := by
  rcases List.mem_append.mp h with h | h
  · rcases List.mem_append.mp h with h | h
    · rcases List.mem_cons.mp h with h | h
      · omega
      · have := List.mem_singleton.mp h
        omega
    · cases fines with
      | false => exact absurd h List.not_mem_nil
      | true =>
        rcases List.mem_cons.mp h with h | h
        · omega
        · have := List.mem_singleton.mp h
          omega
  · obtain ⟨i, h1, h2, h3⟩ := ldl_mem h
    omega
theorem esC_mem {op : Nat → Nat → Bool} {fines : Bool} {S e : Nat} (hS : S ≤ 7) : ∀ {k : Nat}, e ∈ esC op fines S k → e / 11 < k
  | 0, h => absurd h List.not_mem_nil
  | k + 1, h => by
    rcases List.mem_append.mp h with h | h
    · have := esC_mem hS h
      omega
    · have := sgC_mem hS h
      omega
theorem sgC_nodup {op : Nat → Nat → Bool} {fines : Bool} {S k : Nat} (hS : S ≤ 7) : (sgC op fines S k).Nodup := by
  refine List.nodup_append.mpr ⟨?_, ldl_nodup _ _ _, fun x hx y hy q => ?_⟩
  · cases fines with
    | false => exact List.nodup_cons.mpr ⟨fun h => by have := List.mem_singleton.mp h; omega, List.nodup_cons.mpr ⟨List.not_mem_nil, List.nodup_nil⟩⟩
    | true =>
      show [11 * k + 7, 11 * k + 8, 11 * k + 9, 11 * k + 10].Nodup
      simp
  · obtain ⟨i, h1, h2, h3⟩ := ldl_mem hy
    have hx1 : x = 11 * k + 7 ∨ x = 11 * k + 8 ∨ x = 11 * k + 9 ∨ x = 11 * k + 10 := by
      rcases List.mem_append.mp hx with h | h
      · rcases List.mem_cons.mp h with h | h
        · omega
        · have := List.mem_singleton.mp h
          omega
      · cases fines with
        | false => exact absurd h List.not_mem_nil
        | true =>
          rcases List.mem_cons.mp h with h | h
          · omega
          · have := List.mem_singleton.mp h
            omega
    omega
theorem esC_nodup {op : Nat → Nat → Bool} {fines : Bool} {S : Nat} (hS : S ≤ 7) : ∀ k, (esC op fines S k).Nodup
  | 0 => List.nodup_nil
  | k + 1 => by
    refine List.nodup_append.mpr ⟨esC_nodup hS k, sgC_nodup hS, fun x hx y hy q => ?_⟩
    have h1 := esC_mem hS hx
    have h2 := sgC_mem hS hy
    omega
theorem n_ends {e : Nat} (h : e / 11 < 7) : nSr e < 8 ∧ nDs e < 8 := by
  unfold nSr nDs
  constructor
  · split <;> omega
  · split
    · omega
    · split <;> omega
/-- the edges as a network -/
def wS (l : List Nat) (q : Nat) : Nat := nSr (l.getD q 0)
def wD (l : List Nat) (q : Nat) : Nat := nDs (l.getD q 0)
def wO (st fi : Nat → Nat) (l : List Nat) (q : Nat) : Int := nCo st fi (l.getD q 0)
def wC (al : Nat → Nat) (big : Int) (l : List Nat) (q : Nat) : Int := nC al big (l.getD q 0)
theorem w_HN {l : List Nat} {st fi al : Nat → Nat} {big : Int} (hl : ∀ e ∈ l, e / 11 < 7) (hb : 0 ≤ big) (hst : ∀ k, k < 7 → st k ≤ 1000) (hfi : ∀ k, k < 7 → fi k ≤ 1000) : HN l.length (wS l) (wD l) (wO st fi l) (wC al big l) := fun q hq => by
  have hm := hl _ (getD_mem hq)
  obtain ⟨h1, h2⟩ := n_ends hm
  refine ⟨h1, h2, ?_⟩
  have h3 := hst _ hm
  have h4 := hfi _ hm
  unfold wO wC nCo nC
  refine ⟨?_, ?_, ?_⟩
  · split
    · omega
    · split <;> omega
  · split
    · omega
    · split <;> omega
  · split <;> omega
theorem getD_ap {l : List Nat} {e q : Nat} (h : q < l.length) : (l ++ [e]).getD q 0 = l.getD q 0 := by
  rw [List.getD_eq_getElem?_getD, List.getD_eq_getElem?_getD, List.getElem?_append_left h]
theorem getD_end {l : List Nat} {e : Nat} : (l ++ [e]).getD l.length 0 = e := by
  rw [List.getD_eq_getElem?_getD, List.getElem?_append_right (Nat.le_refl _), Nat.sub_self]
  rfl
/-- how much each has too much: the streets' unevenness, the outside's its opposite -/
def sx (xv : Nat → Int) : Nat → Int
  | 0 => 0
  | k + 1 => sx xv k + xv k
def xx (xv : Nat → Int) (k : Nat) (v : Nat) : Int := if v < k then xv v else if v = 7 then -(sx xv k) else 0
