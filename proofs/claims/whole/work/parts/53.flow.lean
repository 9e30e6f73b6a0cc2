/-! plain mathematics: flows of least cost on 8 places -/
def sz (F : Nat → Int) : List Nat → Int
  | [] => 0
  | a :: l => F a + sz F l
theorem sz_congr {F G : Nat → Int} : ∀ {l : List Nat}, (∀ e ∈ l, F e = G e) → sz F l = sz G l
  | [], _ => rfl
  | a :: l, h => by
    unfold sz
    rw [h a List.mem_cons_self, sz_congr (fun e he => h e (List.mem_cons_of_mem _ he))]
theorem sz_add (F G : Nat → Int) : ∀ l : List Nat, sz (fun e => F e + G e) l = sz F l + sz G l
  | [] => rfl
  | a :: l => by
    unfold sz
    rw [sz_add F G l]
    omega
theorem sz_sub (F G : Nat → Int) : ∀ l : List Nat, sz (fun e => F e - G e) l = sz F l - sz G l
  | [] => rfl
  | a :: l => by
    unfold sz
    rw [sz_sub F G l]
    omega
theorem sz_nn {F : Nat → Int} : ∀ {l : List Nat}, (∀ e ∈ l, 0 ≤ F e) → 0 ≤ sz F l
  | [], _ => by unfold sz; omega
  | a :: l, h => by
    unfold sz
    have h1 := h a List.mem_cons_self
    have h2 := sz_nn (fun e he => h e (List.mem_cons_of_mem _ he))
    omega
theorem sz_le {F G : Nat → Int} {l : List Nat} (h : ∀ e ∈ l, F e ≤ G e) : sz F l ≤ sz G l := by
  have h1 : 0 ≤ sz (fun e => G e - F e) l := sz_nn (fun e he => by have := h e he; show 0 ≤ G e - F e; omega)
  rw [sz_sub] at h1
  omega
theorem sz_perm {F : Nat → Int} {l l' : List Nat} (h : l.Perm l') : sz F l = sz F l' := by
  induction h with
  | nil => rfl
  | cons a _ ih => unfold sz; rw [ih]
  | swap a b l => unfold sz; unfold sz; omega
  | trans _ _ h1 h2 => exact h1.trans h2
theorem sz_zero : ∀ l : List Nat, sz (fun _ => 0) l = 0
  | [] => rfl
  | a :: l => by unfold sz; rw [sz_zero l]; rfl
theorem sz_app (F : Nat → Int) : ∀ l l' : List Nat, sz F (l ++ l') = sz F l + sz F l'
  | [], l' => by simp [sz]
  | a :: l, l' => by
    show F a + sz F (l ++ l') = F a + sz F l + sz F l'
    rw [sz_app F l l']
    omega
def s8 (F : Nat → Int) : Int := F 0 + F 1 + F 2 + F 3 + F 4 + F 5 + F 6 + F 7
theorem s8_congr {F G : Nat → Int} (h : ∀ v, v < 8 → F v = G v) : s8 F = s8 G := by
  unfold s8
  rw [h 0 (by omega), h 1 (by omega), h 2 (by omega), h 3 (by omega), h 4 (by omega), h 5 (by omega), h 6 (by omega), h 7 (by omega)]
theorem s8_add (F G : Nat → Int) : s8 (fun v => F v + G v) = s8 F + s8 G := by
  show (F 0 + G 0) + (F 1 + G 1) + (F 2 + G 2) + (F 3 + G 3) + (F 4 + G 4) + (F 5 + G 5) + (F 6 + G 6) + (F 7 + G 7) = (F 0 + F 1 + F 2 + F 3 + F 4 + F 5 + F 6 + F 7) + (G 0 + G 1 + G 2 + G 3 + G 4 + G 5 + G 6 + G 7)
  omega
theorem s8_sub (F G : Nat → Int) : s8 (fun v => F v - G v) = s8 F - s8 G := by
  show (F 0 - G 0) + (F 1 - G 1) + (F 2 - G 2) + (F 3 - G 3) + (F 4 - G 4) + (F 5 - G 5) + (F 6 - G 6) + (F 7 - G 7) = (F 0 + F 1 + F 2 + F 3 + F 4 + F 5 + F 6 + F 7) - (G 0 + G 1 + G 2 + G 3 + G 4 + G 5 + G 6 + G 7)
  omega
theorem s8_zero : s8 (fun _ => 0) = 0 := rfl
theorem s8_one {F : Nat → Int} {k : Nat} (hk : k < 8) : s8 (fun v => if k = v then F v else 0) = F k := by
  match k, hk with
  | 0, _ => simp [s8]
  | 1, _ => simp [s8]
  | 2, _ => simp [s8]
  | 3, _ => simp [s8]
  | 4, _ => simp [s8]
  | 5, _ => simp [s8]
  | 6, _ => simp [s8]
  | 7, _ => simp [s8]
  | k + 8, h => exact absurd h (by omega)
theorem s8_nn {F : Nat → Int} (h : ∀ v, v < 8 → 0 ≤ F v) : 0 ≤ s8 F := by
  unfold s8
  have h0 := h 0 (by omega)
  have h1 := h 1 (by omega)
  have h2 := h 2 (by omega)
  have h3 := h 3 (by omega)
  have h4 := h 4 (by omega)
  have h5 := h 5 (by omega)
  have h6 := h 6 (by omega)
  have h7 := h 7 (by omega)
  omega
theorem s8_pos {F : Nat → Int} (h : ∀ v, v < 8 → 0 ≤ F v) {k : Nat} (hk : k < 8) (hp : 0 < F k) : 0 < s8 F := by
  have e : s8 F = s8 (fun v => if k = v then F v else 0) + s8 (fun v => if k = v then 0 else F v) := by
    rw [← s8_add]
    exact s8_congr fun v _ => by (try dsimp only); split <;> omega
  rw [s8_one hk] at e
  have : 0 ≤ s8 (fun v => if k = v then 0 else F v) := s8_nn fun v hv => by
    try dsimp only
    split
    · omega
    · exact h v hv
  omega
/-- what comes into v less what goes from it, along the edges of a list -/
def fbal (sr ds : Nat → Nat) (f : Nat → Int) (l : List Nat) (v : Nat) : Int := sz (fun e => (if ds e = v then f e else 0) - (if sr e = v then f e else 0)) l
theorem fbal_sub (sr ds : Nat → Nat) (f g : Nat → Int) (l : List Nat) (v : Nat) : fbal sr ds (fun e => f e - g e) l v = fbal sr ds f l v - fbal sr ds g l v := by
  unfold fbal
  rw [← sz_sub]
  exact sz_congr fun e _ => by (try dsimp only); split <;> split <;> omega
theorem f_exch (sr ds : Nat → Nat) (f p : Nat → Int) : ∀ l : List Nat, (∀ e ∈ l, sr e < 8 ∧ ds e < 8) → sz (fun e => (p (ds e) - p (sr e)) * f e) l = s8 (fun v => p v * fbal sr ds f l v)
  | [], _ => by simp [sz, fbal, s8]
  | a :: l, h => by
    have ih := f_exch sr ds f p l (fun e he => h e (List.mem_cons_of_mem _ he))
    obtain ⟨h1, h2⟩ := h a List.mem_cons_self
    have e1 : s8 (fun v => p v * fbal sr ds f (a :: l) v) = s8 (fun v => if ds a = v then p v * f a else 0) - s8 (fun v => if sr a = v then p v * f a else 0) + s8 (fun v => p v * fbal sr ds f l v) := by
      rw [← s8_sub, ← s8_add]
      refine s8_congr fun v _ => ?_
      show p v * (((if ds a = v then f a else 0) - (if sr a = v then f a else 0)) + fbal sr ds f l v) = _
      rw [Int.mul_add, Int.mul_sub]
      try dsimp only
      split <;> split <;> simp
    rw [e1, s8_one h2, s8_one h1, ← ih]
    show (p (ds a) - p (sr a)) * f a + sz _ l = _
    rw [Int.sub_mul]
/-- potentials show that a flow costs no more than another one of the same balance -/
theorem fl_opt (sr ds : Nat → Nat) (co f g p : Nat → Int) (l : List Nat) (hs : ∀ e ∈ l, sr e < 8 ∧ ds e < 8) (hb : ∀ v, v < 8 → fbal sr ds f l v = fbal sr ds g l v) (hp : ∀ e ∈ l, (f e < g e → 0 ≤ co e + p (sr e) - p (ds e)) ∧ (g e < f e → co e + p (sr e) - p (ds e) ≤ 0)) : sz (fun e => co e * f e) l ≤ sz (fun e => co e * g e) l := by
  have e0 : sz (fun e => co e * g e) l - sz (fun e => co e * f e) l = sz (fun e => (co e + p (sr e) - p (ds e)) * (g e - f e)) l + sz (fun e => (p (ds e) - p (sr e)) * (g e - f e)) l := by
    rw [← sz_sub, ← sz_add]
    refine sz_congr fun e _ => ?_
    show co e * g e - co e * f e = (co e + p (sr e) - p (ds e)) * (g e - f e) + (p (ds e) - p (sr e)) * (g e - f e)
    rw [← Int.add_mul, ← Int.mul_sub]
    congr 1
    omega
  have e1 : sz (fun e => (p (ds e) - p (sr e)) * (g e - f e)) l = 0 := by
    rw [f_exch sr ds (fun e => g e - f e) p l hs]
    rw [s8_congr (G := fun _ => 0)]
    · rfl
    · intro v hv
      rw [fbal_sub, hb v hv]
      simp
  have e2 : 0 ≤ sz (fun e => (co e + p (sr e) - p (ds e)) * (g e - f e)) l := by
    refine sz_nn fun e he => ?_
    obtain ⟨h1, h2⟩ := hp e he
    show 0 ≤ (co e + p (sr e) - p (ds e)) * (g e - f e)
    rcases Int.lt_trichotomy (f e) (g e) with h | h | h
    · exact Int.mul_nonneg (h1 h) (by omega)
    · rw [h]; simp
    · exact Int.mul_nonneg_of_nonpos_of_nonpos (h2 h) (by omega)
  omega
/-- a set that no more can leave shows that no flow settles all -/
theorem fl_cut (sr ds : Nat → Nat) (x f g : Nat → Int) (R : Nat → Bool) (l : List Nat) (hs : ∀ e ∈ l, sr e < 8 ∧ ds e < 8) (hg : ∀ v, v < 8 → x v + fbal sr ds g l v = 0) (hR : ∀ v, v < 8 → R v = true → 0 ≤ x v + fbal sr ds f l v) {k : Nat} (hk : k < 8) (hRk : R k = true) (hpos : 0 < x k + fbal sr ds f l k) (he : ∀ e ∈ l, (R (sr e) = true → R (ds e) = false → g e ≤ f e) ∧ (R (sr e) = false → R (ds e) = true → f e ≤ g e)) : False := by
  have e1 := f_exch sr ds (fun e => f e - g e) (fun v => if R v = true then 1 else 0) l hs
  have e2 : sz (fun e => ((if R (ds e) = true then (1 : Int) else 0) - (if R (sr e) = true then 1 else 0)) * (f e - g e)) l ≤ 0 := by
    refine Int.le_trans (sz_le (G := fun _ => 0) fun e hel => ?_) (Int.le_of_eq (sz_zero l))
    obtain ⟨h1, h2⟩ := he e hel
    try dsimp only
    cases hd : R (ds e) <;> cases hr : R (sr e)
    · simp
    · have := h1 hr hd
      simp
      omega
    · have := h2 hr hd
      simp
      omega
    · simp
  have e3 : 0 < s8 (fun v => (if R v = true then (1 : Int) else 0) * fbal sr ds (fun e => f e - g e) l v) := by
    refine s8_pos (k := k) (fun v hv => ?_) hk ?_
    · try dsimp only
      rw [fbal_sub]
      have h1 := hg v hv
      cases hr : R v
      · simp
      · have := hR v hv hr
        simp
        omega
    · try dsimp only
      rw [fbal_sub, if_pos hRk]
      have h1 := hg k hk
      omega
  rw [← e1] at e3
  omega
