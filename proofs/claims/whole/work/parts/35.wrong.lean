/-! tallies told by hand -/
def rngB (x : Int32) : Bool := !(decide (x < nI 0)) && !(decide (nI 999 < x))
def offB (A : Ab) : Nat → Int32
  | 0 => nI 0
  | j + 1 => offB A j + (nI (ti A j) - nI (tu A j))
theorem x_in_g {N : Nat} {σ : Sg} {x : Int32} : f_X7_in N x (nI 0) (nI 999) σ = some (if rngB x = true then nI 1 else nI 0, σ) := by
  unfold f_X7_in b_X7_in_14 rngB
  by_cases h1 : x < nI 0
  · rw [if_pos h1, decide_eq_true h1]
    rfl
  · rw [if_neg h1, decide_eq_false h1]
    by_cases h2 : nI 999 < x
    · rw [if_pos h2, decide_eq_true h2]
      rfl
    · rw [if_neg h2, decide_eq_false h2]
      rfl
theorem x_off6l {N : Nat} {σ : Sg} {A : Ab} (hA : AOK A) (hC : RC 1 10 3 26 A σ) : ∀ m n j, j + m = aZ A → b_X4_off_4 N (n + m + 1) (offB A j) (nI j) σ = some (offB A (aZ A), σ)
  | 0, n, j, hj => by
    have hZ7 := hA.1.2.2.2.2
    show b_X4_off_4b N (b_X4_off_4 N n) _ _ _ = _
    unfold b_X4_off_4b
    rw [hC.1.2.2.2.2]
    have e : j = aZ A := by omega
    subst e
    exact if_T (of_eq_true (ile_T (Nat.le_refl _) (by omega))) rfl
  | m + 1, n, j, hj => by
    have hZ7 := hA.1.2.2.2.2
    have ih := x_off6l (N := N) hA hC m n (j + 1) (by omega)
    obtain ⟨d1, d2⟩ := hC.2.2.2.1 j (by omega)
    show b_X4_off_4b N (b_X4_off_4 N (n + m + 1)) _ _ _ = _
    unfold b_X4_off_4b
    rw [hC.1.2.2.2.2]
    refine if_F (of_eq_false (ile_F (by omega) (by omega))) (gd_k (inb_nI (by omega) (by decide)) (gd_k (inb_nI (by omega) (by decide)) (nm_k (nm_k ?_))))
    rw [nI_clamp (by omega), d1, d2, l_1, nI_add]
    exact ih
theorem x_off6 {N : Nat} {σ : Sg} {A : Ab} (hA : AOK A) (hC : RC 1 10 3 26 A σ) : f_X4_off (N + 8) σ = some (offB A (aZ A), σ) := by
  have hZ7 := hA.1.2.2.2.2
  have k := x_off6l (N := N + 8) hA hC (aZ A) (N + 7 - aZ A) 0 (by omega)
  rw [show N + 7 - aZ A + aZ A + 1 = N + 8 by omega] at k
  exact k
theorem x_wr6al {N : Nat} {σ : Sg} {A : Ab} (hA : AOK A) (hC : RC 1 10 3 26 A σ) {o : Int32} (ho : ¬ o = 0) : ∀ m n j, j + m = aZ A → b_X4_wrongOnes_5 N (n + m + 1) o (nI (setB (fun i => rngB (nI (ti A i) + o)) j)) (nI j) σ = some (nI (setB (fun i => rngB (nI (ti A i) + o)) (aZ A)), σ)
  | 0, n, j, hj => by
    have hZ7 := hA.1.2.2.2.2
    show b_X4_wrongOnes_5b N (b_X4_wrongOnes_5 N n) _ _ _ _ = _
    unfold b_X4_wrongOnes_5b
    rw [hC.1.2.2.2.2]
    have e : j = aZ A := by omega
    subst e
    exact if_T (of_eq_true (ile_T (Nat.le_refl _) (by omega))) rfl
  | m + 1, n, j, hj => by
    have hZ7 := hA.1.2.2.2.2
    have ih := x_wr6al (N := N) hA hC ho m n (j + 1) (by omega)
    have hs : setB (fun i => rngB (nI (ti A i) + o)) j < 128 := p2_le (by omega : j ≤ 7) (setB_lt _ j)
    have d := (hC.2.2.2.1 j (by omega)).1
    show b_X4_wrongOnes_5b N (b_X4_wrongOnes_5 N (n + m + 1)) _ _ _ _ = _
    unfold b_X4_wrongOnes_5b b_X4_wrongOnes_46
    rw [hC.1.2.2.2.2]
    refine if_F (of_eq_false (ile_F (by omega) (by omega))) (if_F ho (gd_k (inb_nI (by omega) (by decide)) (nm_k ?_)))
    rw [nI_clamp (by omega), d, l_1, l_31, bit_2 _ hs j (by omega)]
    have e : setB (fun i => rngB (nI (ti A i) + o)) (j + 1) = if rngB (nI (ti A j) + o) = true then setB (fun i => rngB (nI (ti A i) + o)) j ||| 2 ^ j else setB (fun i => rngB (nI (ti A i) + o)) j := rfl
    rw [e] at ih
    by_cases h1 : nI (ti A j) + o < nI 0
    · have hp : rngB (nI (ti A j) + o) = false := by
        unfold rngB
        rw [decide_eq_true h1]
        rfl
      rw [hp, if_neg Bool.false_ne_true] at ih
      refine if_T h1 (nm_k ?_)
      rw [nI_add]
      exact ih
    by_cases h2 : nI 999 < nI (ti A j) + o
    · have hp : rngB (nI (ti A j) + o) = false := by
        unfold rngB
        rw [decide_eq_true h2, Bool.not_true, Bool.and_false]
      rw [hp, if_neg Bool.false_ne_true] at ih
      refine if_F h1 (if_T h2 (nm_k ?_))
      rw [nI_add]
      exact ih
    · have hp : rngB (nI (ti A j) + o) = true := by
        unfold rngB
        rw [decide_eq_false h1, decide_eq_false h2]
        rfl
      rw [hp, if_pos rfl] at ih
      refine if_F h1 (if_F h2 (nm_k (nm_k ?_)))
      rw [nI_add]
      exact ih
theorem x_wr6bl {N : Nat} {σ : Sg} {A : Ab} (hA : AOK A) (hC : RC 1 10 3 26 A σ) {o : Int32} (ho : ¬ o = 0) : ∀ m n j, j + m = aZ A → b_X4_wrongOnes_v1_5 N (n + m + 1) o (nI (setB (fun i => rngB (nI (tu A i) + o)) j)) (nI j) σ = some (nI (setB (fun i => rngB (nI (tu A i) + o)) (aZ A)), σ)
  | 0, n, j, hj => by
    have hZ7 := hA.1.2.2.2.2
    show b_X4_wrongOnes_v1_5b N (b_X4_wrongOnes_v1_5 N n) _ _ _ _ = _
    unfold b_X4_wrongOnes_v1_5b
    rw [hC.1.2.2.2.2]
    have e : j = aZ A := by omega
    subst e
    exact if_T (of_eq_true (ile_T (Nat.le_refl _) (by omega))) rfl
  | m + 1, n, j, hj => by
    have hZ7 := hA.1.2.2.2.2
    have ih := x_wr6bl (N := N) hA hC ho m n (j + 1) (by omega)
    have hs : setB (fun i => rngB (nI (tu A i) + o)) j < 128 := p2_le (by omega : j ≤ 7) (setB_lt _ j)
    have d := (hC.2.2.2.1 j (by omega)).2
    show b_X4_wrongOnes_v1_5b N (b_X4_wrongOnes_v1_5 N (n + m + 1)) _ _ _ _ = _
    unfold b_X4_wrongOnes_v1_5b b_X4_wrongOnes_v1_46
    rw [hC.1.2.2.2.2]
    refine if_F (of_eq_false (ile_F (by omega) (by omega))) (if_F ho (gd_k (inb_nI (by omega) (by decide)) (nm_k ?_)))
    rw [nI_clamp (by omega), d, l_1, l_31, bit_2 _ hs j (by omega)]
    have e : setB (fun i => rngB (nI (tu A i) + o)) (j + 1) = if rngB (nI (tu A j) + o) = true then setB (fun i => rngB (nI (tu A i) + o)) j ||| 2 ^ j else setB (fun i => rngB (nI (tu A i) + o)) j := rfl
    rw [e] at ih
    by_cases h1 : nI (tu A j) + o < nI 0
    · have hp : rngB (nI (tu A j) + o) = false := by
        unfold rngB
        rw [decide_eq_true h1]
        rfl
      rw [hp, if_neg Bool.false_ne_true] at ih
      refine if_T h1 (nm_k ?_)
      rw [nI_add]
      exact ih
    by_cases h2 : nI 999 < nI (tu A j) + o
    · have hp : rngB (nI (tu A j) + o) = false := by
        unfold rngB
        rw [decide_eq_true h2, Bool.not_true, Bool.and_false]
      rw [hp, if_neg Bool.false_ne_true] at ih
      refine if_F h1 (if_T h2 (nm_k ?_))
      rw [nI_add]
      exact ih
    · have hp : rngB (nI (tu A j) + o) = true := by
        unfold rngB
        rw [decide_eq_false h1, decide_eq_false h2]
        rfl
      rw [hp, if_pos rfl] at ih
      refine if_F h1 (if_F h2 (nm_k (nm_k ?_)))
      rw [nI_add]
      exact ih
def wrV (A : Ab) (w : Nat) (o : Int32) (i : Nat) : Int32 := if w = 1 then nI (ti A i) - o else nI (tu A i) + o
theorem x_wr7l {N : Nat} {σ : Sg} {A : Ab} (hA : AOK A) (hM : RM 61 A σ) {o : Int32} (ho : ¬ o = 0) {w : Nat} (hw : w ≤ 2) : ∀ m n j, j + m = aZ A → b_X7_wrong_59 N (n + m + 1) (nI w) o (nI (setB (fun i => rngB (wrV A w o i)) j)) (nI j) σ = some (if w = 0 then o else nI (setB (fun i => rngB (wrV A w o i)) (aZ A)), σ)
  | 0, n, j, hj => by
    have hZ7 := hA.1.2.2.2.2
    have m5 : ar σ 61 (2 : Int32).toNatClampNeg = nI (aZ A) := hM.1.2.2.2.2.1
    show b_X7_wrong_59b N (b_X7_wrong_59 N n) _ _ _ _ _ = _
    unfold b_X7_wrong_59b b_X7_wrong_137
    rw [m5]
    have e : j = aZ A := by omega
    subst e
    refine gd_k rfl (if_T (of_eq_true (ile_T (Nat.le_refl _) (by omega))) ?_)
    by_cases h0 : w = 0
    · subst h0
      exact if_T n00 rfl
    · rw [if_neg h0]
      exact if_F (of_eq_false (ieq_F h0 (by omega) (by decide))) rfl
  | m + 1, n, j, hj => by
    have hZ7 := hA.1.2.2.2.2
    have m5 : ar σ 61 (2 : Int32).toNatClampNeg = nI (aZ A) := hM.1.2.2.2.2.1
    have ih := x_wr7l (N := N) hA hM ho hw m n (j + 1) (by omega)
    have hs : setB (fun i => rngB (wrV A w o i)) j < 128 := p2_le (by omega : j ≤ 7) (setB_lt _ j)
    obtain ⟨d1, d2⟩ := hM.2.2.2.1 j (by omega)
    have e : setB (fun i => rngB (wrV A w o i)) (j + 1) = if rngB (wrV A w o j) = true then setB (fun i => rngB (wrV A w o i)) j ||| 2 ^ j else setB (fun i => rngB (wrV A w o i)) j := rfl
    rw [e] at ih
    have go : b_X7_wrong_106 N (b_X7_wrong_59 N (n + m + 1)) (nI w) o (nI (setB (fun i => rngB (wrV A w o i)) j)) (nI j) (wrV A w o j) σ = some (if w = 0 then o else nI (setB (fun i => rngB (wrV A w o i)) (aZ A)), σ) := by
      unfold b_X7_wrong_106 b_X7_wrong_129
      refine bd2_k x_in_g ?_
      cases hp : rngB (wrV A w o j)
      · rw [hp, if_neg Bool.false_ne_true] at ih
        refine if_T n00 ?_
        rw [l_0, l_1, bit_6 _ hs, nI_add]
        exact ih
      · rw [hp, if_pos rfl] at ih
        refine if_F n10 ?_
        rw [l_1, l_31, bit_2 _ hs j (by omega), nI_add]
        exact ih
    show b_X7_wrong_59b N (b_X7_wrong_59 N (n + m + 1)) _ _ _ _ _ = _
    unfold b_X7_wrong_59b
    rw [m5, l_87, l_94, nI_add, nI_add, nI_clamp (by omega), nI_clamp (by omega), d1, d2]
    refine gd_k rfl (if_F (of_eq_false (ile_F (by omega) (by omega))) (if_F ho ?_))
    by_cases h1 : w = 1
    · have q : wrV A w o j = nI (ti A j) - o := if_pos h1
      rw [q] at go
      exact if_T (by rw [h1]; rfl) (gd_k (inb_nI (by omega) (by decide)) go)
    · have q : wrV A w o j = nI (tu A j) + o := if_neg h1
      rw [q] at go
      exact if_F (of_eq_false (ieq_F h1 (by omega) (by decide))) (gd_k (inb_nI (by omega) (by decide)) go)
theorem x_off7l {N : Nat} {σ : Sg} {A : Ab} (hA : AOK A) (hM : RM 61 A σ) {x : Int32} : ∀ m n j, j + m = aZ A → b_X7_wrong_16 N (n + m + 1) x (offB A j) (nI j) σ = b_X7_wrong_59 N N x (offB A (aZ A)) 0 0 σ
  | 0, n, j, hj => by
    have hZ7 := hA.1.2.2.2.2
    have m5 : ar σ 61 (2 : Int32).toNatClampNeg = nI (aZ A) := hM.1.2.2.2.2.1
    show b_X7_wrong_16b N (b_X7_wrong_16 N n) _ _ _ _ = _
    unfold b_X7_wrong_16b
    rw [m5]
    have e : j = aZ A := by omega
    subst e
    exact gd_k rfl (if_T (of_eq_true (ile_T (Nat.le_refl _) (by omega))) rfl)
  | m + 1, n, j, hj => by
    have hZ7 := hA.1.2.2.2.2
    have m5 : ar σ 61 (2 : Int32).toNatClampNeg = nI (aZ A) := hM.1.2.2.2.2.1
    have ih := x_off7l (N := N) (x := x) hA hM m n (j + 1) (by omega)
    obtain ⟨d1, d2⟩ := hM.2.2.2.1 j (by omega)
    show b_X7_wrong_16b N (b_X7_wrong_16 N (n + m + 1)) _ _ _ _ = _
    unfold b_X7_wrong_16b
    rw [m5, l_87, l_94, nI_add, nI_add, nI_clamp (by omega), nI_clamp (by omega), d1, d2]
    refine gd_k rfl (if_F (of_eq_false (ile_F (by omega) (by omega))) (gd_k (inb_nI (by omega) (by decide)) (gd_k (inb_nI (by omega) (by decide)) (nm_k (nm_k ?_)))))
    rw [l_1, nI_add]
    exact ih
theorem x_wr7 {N : Nat} {σ : Sg} {A : Ab} (hA : AOK A) (hM : RM 61 A σ) {w : Nat} (hw : w ≤ 2) : b_X7_wrong_16 (N + 8) (N + 8) (nI w) 0 0 σ = some (if w = 0 then offB A (aZ A) else if offB A (aZ A) = 0 then nI 0 else nI (setB (fun i => rngB (wrV A w (offB A (aZ A)) i)) (aZ A)), σ) := by
  have hZ7 := hA.1.2.2.2.2
  have k := x_off7l (N := N + 8) (x := nI w) hA hM (aZ A) (N + 7 - aZ A) 0 (by omega)
  rw [show N + 7 - aZ A + aZ A + 1 = N + 8 by omega] at k
  refine k.trans ?_
  by_cases ho : offB A (aZ A) = 0
  · have m5 : ar σ 61 (2 : Int32).toNatClampNeg = nI (aZ A) := hM.1.2.2.2.2.1
    rw [if_pos ho]
    show b_X7_wrong_59b (N + 8) (b_X7_wrong_59 (N + 8) (N + 7)) _ _ _ _ _ = _
    unfold b_X7_wrong_59b b_X7_wrong_137
    have q : (if nI w = 0 then some (offB A (aZ A), σ) else some (0, σ)) = some (if w = 0 then offB A (aZ A) else nI 0, σ) := by
      by_cases h0 : w = 0
      · subst h0
        rfl
      · rw [if_neg h0]
        exact if_F (of_eq_false (ieq_F h0 (by omega) (by decide))) rfl
    rw [m5]
    by_cases hz : aZ A = 0
    · exact gd_k rfl (if_T (by rw [hz]; exact of_eq_true (ile_T (Nat.le_refl 0) (by decide))) q)
    · exact gd_k rfl (if_F (of_eq_false (ile_F (by omega : 0 < aZ A) (by omega))) (if_T ho q))
  · rw [if_neg ho]
    have g := x_wr7l (N := N + 8) hA hM ho hw (aZ A) (N + 7 - aZ A) 0 (by omega)
    rw [show N + 7 - aZ A + aZ A + 1 = N + 8 by omega] at g
    exact g
theorem x_wr6a {N : Nat} {σ : Sg} {A : Ab} (hA : AOK A) (hC : RC 1 10 3 26 A σ) (o : Int32) : f_X4_wrongOnes (N + 8) o σ = some (if o = 0 then nI 0 else nI (setB (fun i => rngB (nI (ti A i) + o)) (aZ A)), σ) := by
  have hZ7 := hA.1.2.2.2.2
  by_cases ho : o = 0
  · rw [if_pos ho]
    show b_X4_wrongOnes_5b (N + 8) (b_X4_wrongOnes_5 (N + 8) (N + 7)) _ _ _ _ = _
    unfold b_X4_wrongOnes_5b
    rw [hC.1.2.2.2.2]
    by_cases hz : aZ A = 0
    · exact if_T (by rw [hz]; exact of_eq_true (ile_T (Nat.le_refl 0) (by decide))) rfl
    · exact if_F (of_eq_false (ile_F (by omega : 0 < aZ A) (by omega))) (if_T ho rfl)
  · rw [if_neg ho]
    have g := x_wr6al (N := N + 8) hA hC ho (aZ A) (N + 7 - aZ A) 0 (by omega)
    rw [show N + 7 - aZ A + aZ A + 1 = N + 8 by omega] at g
    exact g
theorem x_wr6b {N : Nat} {σ : Sg} {A : Ab} (hA : AOK A) (hC : RC 1 10 3 26 A σ) (o : Int32) : f_X4_wrongOnes_v1 (N + 8) o σ = some (if o = 0 then nI 0 else nI (setB (fun i => rngB (nI (tu A i) + o)) (aZ A)), σ) := by
  have hZ7 := hA.1.2.2.2.2
  by_cases ho : o = 0
  · rw [if_pos ho]
    show b_X4_wrongOnes_v1_5b (N + 8) (b_X4_wrongOnes_v1_5 (N + 8) (N + 7)) _ _ _ _ = _
    unfold b_X4_wrongOnes_v1_5b
    rw [hC.1.2.2.2.2]
    by_cases hz : aZ A = 0
    · exact if_T (by rw [hz]; exact of_eq_true (ile_T (Nat.le_refl 0) (by decide))) rfl
    · exact if_F (of_eq_false (ile_F (by omega : 0 < aZ A) (by omega))) (if_T ho rfl)
  · rw [if_neg ho]
    have g := x_wr6bl (N := N + 8) hA hC ho (aZ A) (N + 7 - aZ A) 0 (by omega)
    rw [show N + 7 - aZ A + aZ A + 1 = N + 8 by omega] at g
    exact g
theorem neg0 {o : Int32} (h : -o = 0) : o = 0 := by
  have := congrArg (fun x : Int32 => -x) h
  simpa using this
theorem op_wrong {N : Nat} {σ : Sg} {A : Ab} (hI : Inv A σ) (x : Int32) : Ok2 (f_X6_wrong (N + 8) x) (f_X7_wrong (N + 8) x) σ := by
  obtain ⟨⟨hS7, hD99, hT100, hW5, hZ7⟩, hAS, hAT, hAZ, hAW, hAW0⟩ := id hI.1
  obtain ⟨-, hC, hM, hK, r, hr, r1, r2, r3⟩ := id hI
  obtain ⟨⟨c1, c2, c3, c4, c5⟩, cS, cT, cZ, cW⟩ := id hC
  obtain ⟨⟨m1, m2, m3, m4, m5, m6⟩, mS, mT, mZ, mW⟩ := id hM
  have o6 := @x_off6 N σ A hI.1 hC
  have w7 := fun w hw => @x_wr7 N σ A hI.1 hM w hw
  unfold f_X6_wrong f_X7_wrong
  rcases i_cases x with h | ⟨w, hw, rfl⟩
  · exact ⟨-1000001, σ, σ, A, if_F (i_loT h (by decide : 0 < 2 ^ 31)).2.2.2.2.1 (if_F (i_loT h (by decide : 1 < 2 ^ 31)).2.2.2.2.1 (if_F (i_loT h (by decide : 2 < 2 ^ 31)).2.2.2.2.1 rfl)), bd2_k (x_in_lo h (by decide) _) (if_T n00 rfl), hI⟩
  by_cases hw2 : 2 < w
  · exact ⟨-1000001, σ, σ, A, if_F (of_eq_false (ieq_F (by omega : ¬ w = 0) hw (by decide))) (if_F (of_eq_false (ieq_F (by omega : ¬ w = 1) hw (by decide))) (if_F (of_eq_false (ieq_F (by omega : ¬ w = 2) hw (by decide))) rfl)), bd2_k (x_in_F (Or.inr hw2) hw (by decide) (by decide)) (if_T n00 rfl), hI⟩
  have hw2' := Nat.le_of_not_lt hw2
  have k7 := w7 w hw2'
  rcases (show w = 0 ∨ w = 1 ∨ w = 2 by omega) with rfl | rfl | rfl
  · exact ⟨_, σ, σ, A, if_T rfl (bd2_k o6 rfl), bd2_k (x_in_T (Nat.zero_le _) hw2' (by decide)) (if_F n10 k7), hI⟩
  · refine ⟨_, σ, σ, A, if_F (by decide) (if_T rfl (bd2_k o6 (bd2_k (x_wr6a hI.1 hC _) rfl))), bd2_k (x_in_T (Nat.zero_le _) hw2' (by decide)) (if_F n10 (k7.trans ?_)), hI⟩
    rw [if_neg (by decide)]
    by_cases ho : offB A (aZ A) = 0
    · rw [if_pos ho, ho]
      rfl
    · rw [if_neg ho, if_neg (fun q => ho (neg0 q))]
      have e : (fun i => rngB (wrV A 1 (offB A (aZ A)) i)) = fun i => rngB (nI (ti A i) + -offB A (aZ A)) := by
        funext i
        unfold wrV
        rw [if_pos rfl, Int32.sub_eq_add_neg]
      rw [e]
  · refine ⟨_, σ, σ, A, if_F (by decide) (if_F (by decide) (if_T rfl (bd2_k o6 (bd2_k (x_wr6b hI.1 hC _) rfl)))), bd2_k (x_in_T (Nat.zero_le _) hw2' (by decide)) (if_F n10 (k7.trans ?_)), hI⟩
    rw [if_neg (by decide)]
    have e : (fun i => rngB (wrV A 2 (offB A (aZ A)) i)) = fun i => rngB (nI (tu A i) + offB A (aZ A)) := by
      funext i
      unfold wrV
      rw [if_neg (by decide)]
    rw [e]
