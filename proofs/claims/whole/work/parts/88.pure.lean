/-! the law's loop: class and model answer alike, call by call -/
theorem ex_T {c : Prop} [Decidable c] {a b : Option (Int32 × Sg)} (h : c) (g : ∃ s, a = some (1, s)) : ∃ s, (if c then a else b) = some (1, s) := by
  rw [if_pos h]
  exact g
theorem ex_F {c : Prop} [Decidable c] {a b : Option (Int32 × Sg)} (h : ¬ c) (g : ∃ s, b = some (1, s)) : ∃ s, (if c then a else b) = some (1, s) := by
  rw [if_neg h]
  exact g
theorem ex_gd {b : Bool} {k : Option (Int32 × Sg)} (h : b = true) (g : ∃ s, k = some (1, s)) : ∃ s, gd b k = some (1, s) := by
  subst h
  exact g
theorem ex_bd {α β : Type} {o : Option (α × β)} {x : α} {y : β} {k : α → β → Option (Int32 × Sg)} (h : o = some (x, y)) (g : ∃ s, k x y = some (1, s)) : ∃ s, bd2 o k = some (1, s) := by
  subst h
  exact g
theorem lg_self (x : Int64) : lg_cmp x x = 0 := by
  unfold lg_cmp
  rw [if_neg (Int64.lt_irrefl), if_pos rfl]
section LL
variable {L : Nat} {xs : Nat → Int32} {N n8 n200 n1000 : Nat}
theorem pl_feed (h8 : N = n8 + 8) (h200 : N = n200 + 200) (h1000 : N = n1000 + 1000) (hN1 : 140000 ≤ n200) (hN2 : n200 < 900000) {σ : Sg} {A : Ab} (hI : Inv A σ) (x : Int32) : Ok2 (f_X6_feed N x) (f_X7_feed N x) σ := op_feed hI _
theorem pl_town (h8 : N = n8 + 8) (h200 : N = n200 + 200) (h1000 : N = n1000 + 1000) (hN1 : 140000 ≤ n200) (hN2 : n200 < 900000) {σ : Sg} {A : Ab} (hI : Inv A σ) : Ok2 (f_X6_town N) (f_X7_town N) σ := by
  rw [h200]
  exact op_town hI
theorem pl_day (h8 : N = n8 + 8) (h200 : N = n200 + 200) (h1000 : N = n1000 + 1000) (hN1 : 140000 ≤ n200) (hN2 : n200 < 900000) {σ : Sg} {A : Ab} (hI : Inv A σ) (x : Int32) : Ok2 (f_X6_day N x) (f_X7_day N x) σ := op_day hI _
theorem pl_street (h8 : N = n8 + 8) (h200 : N = n200 + 200) (h1000 : N = n1000 + 1000) (hN1 : 140000 ≤ n200) (hN2 : n200 < 900000) {σ : Sg} {A : Ab} (hI : Inv A σ) (x y : Int32) : Ok2 (f_X6_street N x y) (f_X7_street N x y) σ := op_street (by omega) hI _ _
theorem pl_lead (h8 : N = n8 + 8) (h200 : N = n200 + 200) (h1000 : N = n1000 + 1000) (hN1 : 140000 ≤ n200) (hN2 : n200 < 900000) {σ : Sg} {A : Ab} (hI : Inv A σ) (x y z : Int32) : Ok2 (f_X6_lead N x y z) (f_X7_lead N x y z) σ := op_lead hI _ _ _
theorem pl_of (h8 : N = n8 + 8) (h200 : N = n200 + 200) (h1000 : N = n1000 + 1000) (hN1 : 140000 ≤ n200) (hN2 : n200 < 900000) {σ : Sg} {A : Ab} (hI : Inv A σ) (x y : Int32) : Ok2 (f_X6_of N x y) (f_X7_of N x y) σ := by
  rw [h200]
  exact op_of hI _ _
theorem pl_told (h8 : N = n8 + 8) (h200 : N = n200 + 200) (h1000 : N = n1000 + 1000) (hN1 : 140000 ≤ n200) (hN2 : n200 < 900000) {σ : Sg} {A : Ab} (hI : Inv A σ) (x : Int32) : Ok2 (f_X6_told N x) (f_X7_told N x) σ := by
  rw [h200]
  exact op_told hI _
theorem pl_go (h8 : N = n8 + 8) (h200 : N = n200 + 200) (h1000 : N = n1000 + 1000) (hN1 : 140000 ≤ n200) (hN2 : n200 < 900000) {σ : Sg} {A : Ab} (hI : Inv A σ) (x y z : Int32) : Ok2 (f_X6_go N x y z) (f_X7_go N x y z) σ := by
  rw [h8]
  exact op_go hI _ _ _
theorem pl_tally (h8 : N = n8 + 8) (h200 : N = n200 + 200) (h1000 : N = n1000 + 1000) (hN1 : 140000 ≤ n200) (hN2 : n200 < 900000) {σ : Sg} {A : Ab} (hI : Inv A σ) (x y z : Int32) : Ok2 (f_X6_tally N x y z) (f_X7_tally N x y z) σ := op_tally hI _ _ _
theorem pl_cost (h8 : N = n8 + 8) (h200 : N = n200 + 200) (h1000 : N = n1000 + 1000) (hN1 : 140000 ≤ n200) (hN2 : n200 < 900000) {σ : Sg} {A : Ab} (hI : Inv A σ) (x : Int32) : Ok2 (f_X6_cost N x) (f_X7_cost N x) σ := by
  rw [h200]
  exact op_cost hN1 hN2 hI _
theorem pl_gate (h8 : N = n8 + 8) (h200 : N = n200 + 200) (h1000 : N = n1000 + 1000) (hN1 : 140000 ≤ n200) (hN2 : n200 < 900000) {σ : Sg} {A : Ab} (hI : Inv A σ) (x : Int32) : Ok2 (f_X6_gate N x) (f_X7_gate N x) σ := by
  rw [h200]
  exact op_gate hN1 hN2 hI _
theorem pl_fresh (h8 : N = n8 + 8) (h200 : N = n200 + 200) (h1000 : N = n1000 + 1000) (hN1 : 140000 ≤ n200) (hN2 : n200 < 900000) {σ : Sg} {A : Ab} (hI : Inv A σ) (x y : Int32) : Ok2 (f_X6_fresh N x y) (f_X7_fresh N x y) σ := by
  rw [h200]
  exact op_fresh hN1 hN2 hI _ _
theorem pl_need (h8 : N = n8 + 8) (h200 : N = n200 + 200) (h1000 : N = n1000 + 1000) (hN1 : 140000 ≤ n200) (hN2 : n200 < 900000) {σ : Sg} {A : Ab} (hI : Inv A σ) (x y : Int32) : Ok2 (f_X6_need N x y) (f_X7_need N x y) σ := by
  rw [h200]
  exact op_need hN1 hN2 hI _ _
theorem pl_way (h8 : N = n8 + 8) (h200 : N = n200 + 200) (h1000 : N = n1000 + 1000) (hN1 : 140000 ≤ n200) (hN2 : n200 < 900000) {σ : Sg} {A : Ab} (hI : Inv A σ) (x y : Int32) : Ok2 (f_X6_way N x y) (f_X7_way N x y) σ := by
  rw [h200]
  exact op_way hI _ _
theorem pl_errands (h8 : N = n8 + 8) (h200 : N = n200 + 200) (h1000 : N = n1000 + 1000) (hN1 : 140000 ≤ n200) (hN2 : n200 < 900000) {σ : Sg} {A : Ab} (hI : Inv A σ) (x y z : Int32) : Ok2 (f_X6_errands N x y z) (f_X7_errands N x y z) σ := by
  rw [h200]
  exact op_errands hI _ _ _
theorem pl_stand (h8 : N = n8 + 8) (h200 : N = n200 + 200) (h1000 : N = n1000 + 1000) (hN1 : 140000 ≤ n200) (hN2 : n200 < 900000) {σ : Sg} {A : Ab} (hI : Inv A σ) : Ok2 (f_X6_stand N) (f_X7_stand N) σ := by
  rw [h200]
  exact op_stand hI
theorem pl_ways (h8 : N = n8 + 8) (h200 : N = n200 + 200) (h1000 : N = n1000 + 1000) (hN1 : 140000 ≤ n200) (hN2 : n200 < 900000) {σ : Sg} {A : Ab} (hI : Inv A σ) (x y z : Int32) : Okl (f_X6_ways N x y z) (f_X7_ways N x y z) σ := by
  rw [h200]
  exact op_ways hI _ _ _
theorem pl_stray (h8 : N = n8 + 8) (h200 : N = n200 + 200) (h1000 : N = n1000 + 1000) (hN1 : 140000 ≤ n200) (hN2 : n200 < 900000) {σ : Sg} {A : Ab} (hI : Inv A σ) (x y z w : Int32) : Okl (f_X6_stray N x y z w) (f_X7_stray N x y z w) σ := by
  rw [h200]
  exact op_stray hI _ _ _ _
theorem pl_tell (h8 : N = n8 + 8) (h200 : N = n200 + 200) (h1000 : N = n1000 + 1000) (hN1 : 140000 ≤ n200) (hN2 : n200 < 900000) {σ : Sg} {A : Ab} (hI : Inv A σ) (x y : Int32) : Ok2 (f_X6_tell N x y) (f_X7_tell N x y) σ := op_tell hI _ _
theorem pl_wrong (h8 : N = n8 + 8) (h200 : N = n200 + 200) (h1000 : N = n1000 + 1000) (hN1 : 140000 ≤ n200) (hN2 : n200 < 900000) {σ : Sg} {A : Ab} (hI : Inv A σ) (x : Int32) : Ok2 (f_X6_wrong N x) (f_X7_wrong N x) σ := by
  rw [h8]
  exact op_wrong hI _
theorem pl_act (h8 : N = n8 + 8) (h200 : N = n200 + 200) (h1000 : N = n1000 + 1000) (hN1 : 140000 ≤ n200) (hN2 : n200 < 900000) {σ : Sg} {A : Ab} (hI : Inv A σ) (x y z : Int32) : Ok2 (f_X6_act N x y z) (f_X7_act N x y z) σ := by
  rw [h8]
  exact op_act hI _ _ _
theorem pl_trace (h8 : N = n8 + 8) (h200 : N = n200 + 200) (h1000 : N = n1000 + 1000) (hN1 : 140000 ≤ n200) (hN2 : n200 < 900000) {σ : Sg} {A : Ab} (hI : Inv A σ) (x : Int32) : Ok2 (f_X6_trace N x) (f_X7_trace N x) σ := op_trace hI _
theorem pl_as (h8 : N = n8 + 8) (h200 : N = n200 + 200) (h1000 : N = n1000 + 1000) (hN1 : 140000 ≤ n200) (hN2 : n200 < 900000) {σ : Sg} {A : Ab} (hI : Inv A σ) (x y : Int32) : Ok2 (f_X6_as N x y) (f_X7_as N x y) σ := by
  rw [h8]
  exact op_as hI _ _
theorem pl_image (h8 : N = n8 + 8) (h200 : N = n200 + 200) (h1000 : N = n1000 + 1000) (hN1 : 140000 ≤ n200) (hN2 : n200 < 900000) {σ : Sg} {A : Ab} (hI : Inv A σ) : Ok2 (f_X6_image N) (f_X7_image N) σ := by
  rw [h1000]
  exact op_image hI
theorem pl_undo (h8 : N = n8 + 8) (h200 : N = n200 + 200) (h1000 : N = n1000 + 1000) (hN1 : 140000 ≤ n200) (hN2 : n200 < 900000) {σ : Sg} {A : Ab} (hI : Inv A σ) : Ok2 (f_X6_undo N) (f_X7_undo N) σ := by
  rw [h1000]
  exact op_undo hI
theorem pl_count (h8 : N = n8 + 8) (h200 : N = n200 + 200) (h1000 : N = n1000 + 1000) (hN1 : 140000 ≤ n200) (hN2 : n200 < 900000) {σ : Sg} {A : Ab} (hI : Inv A σ) (x : Int32) : Ok2 (f_X6_count N x) (f_X7_count N x) σ := op_count hI _
theorem pl_step (h8 : N = n8 + 8) (h200 : N = n200 + 200) (h1000 : N = n1000 + 1000) (hN1 : 140000 ≤ n200) (hN2 : n200 < 900000) {i : Nat} {k18 : Int32 → Sg → Option (Int32 × Sg)} (hk : ∀ (A' : Ab) (σ' : Sg), Inv A' σ' → ∃ s, b_L_law_948 N L xs k18 (nI i) σ' = some (1, s)) (hlo : ¬ nI L - (5 : Int32) < nI i) (g0 : inb (nI i) L = true) (g1 : inb (nI i + (1 : Int32)) L = true) (g2 : inb (nI i + (2 : Int32)) L = true) (g3 : inb (nI i + (3 : Int32)) L = true) (g4 : inb (nI i + (4 : Int32)) L = true) {σ : Sg} {A : Ab} (hI : Inv A σ) : ∃ s, b_L_law_18b N L xs k18 (nI i) σ = some (1, s) := by
  unfold b_L_law_18b
  refine ex_F hlo (ex_gd g0 ?_)
  by_cases q0 : (xs (nI i).toNatClampNeg) &&& (31 : Int32) = (0 : Int32)
  · obtain ⟨r, σ1, σ2, A', e1, e2, hI'⟩ := pl_feed h8 h200 h1000 hN1 hN2 hI (xs (nI i + (1 : Int32)).toNatClampNeg)
    exact ex_T q0 (ex_gd g1 (ex_bd e1 (ex_gd g1 (ex_bd e2 (ex_T rfl (hk A' σ2 hI'))))))
  refine ex_F q0 ?_
  by_cases q1 : (xs (nI i).toNatClampNeg) &&& (31 : Int32) = (1 : Int32)
  · obtain ⟨r, σ1, σ2, A', e1, e2, hI'⟩ := pl_town h8 h200 h1000 hN1 hN2 hI 
    exact ex_T q1 (ex_bd e1 (ex_bd e2 (ex_T rfl (hk A' σ2 hI'))))
  refine ex_F q1 ?_
  by_cases q2 : (xs (nI i).toNatClampNeg) &&& (31 : Int32) = (2 : Int32)
  · obtain ⟨r, σ1, σ2, A', e1, e2, hI'⟩ := pl_day h8 h200 h1000 hN1 hN2 hI (xs (nI i + (1 : Int32)).toNatClampNeg)
    exact ex_T q2 (ex_gd g1 (ex_bd e1 (ex_gd g1 (ex_bd e2 (ex_T rfl (hk A' σ2 hI'))))))
  refine ex_F q2 ?_
  by_cases q3 : (xs (nI i).toNatClampNeg) &&& (31 : Int32) = (3 : Int32)
  · obtain ⟨r, σ1, σ2, A', e1, e2, hI'⟩ := pl_street h8 h200 h1000 hN1 hN2 hI (xs (nI i + (1 : Int32)).toNatClampNeg) (xs (nI i + (2 : Int32)).toNatClampNeg)
    exact ex_T q3 (ex_gd g1 (ex_gd g2 (ex_bd e1 (ex_gd g1 (ex_gd g2 (ex_bd e2 (ex_T rfl (hk A' σ2 hI'))))))))
  refine ex_F q3 ?_
  by_cases q4 : (xs (nI i).toNatClampNeg) &&& (31 : Int32) = (4 : Int32)
  · refine ex_T q4 (ex_gd g1 (ex_gd g2 (ex_gd g3 ?_)))
    by_cases z : xs (nI i + (3 : Int32)).toNatClampNeg = 0
    · obtain ⟨r, σ1, σ2, A', e1, e2, hI'⟩ := pl_lead h8 h200 h1000 hN1 hN2 hI (xs (nI i + (1 : Int32)).toNatClampNeg) (xs (nI i + (2 : Int32)).toNatClampNeg) (0 : Int32)
      refine ex_T z ?_
      unfold b_L_law_268
      refine ex_bd e1 (ex_gd g1 (ex_gd g2 (ex_gd g3 (ex_T z ?_))))
      unfold b_L_law_295
      exact ex_bd e2 (ex_T rfl (hk A' σ2 hI'))
    · obtain ⟨r, σ1, σ2, A', e1, e2, hI'⟩ := pl_lead h8 h200 h1000 hN1 hN2 hI (xs (nI i + (1 : Int32)).toNatClampNeg) (xs (nI i + (2 : Int32)).toNatClampNeg) (1 : Int32)
      refine ex_F z ?_
      unfold b_L_law_268
      refine ex_bd e1 (ex_gd g1 (ex_gd g2 (ex_gd g3 (ex_F z ?_))))
      unfold b_L_law_295
      exact ex_bd e2 (ex_T rfl (hk A' σ2 hI'))
  refine ex_F q4 ?_
  by_cases q5 : (xs (nI i).toNatClampNeg) &&& (31 : Int32) = (5 : Int32)
  · obtain ⟨r, σ1, σ2, A', e1, e2, hI'⟩ := pl_of h8 h200 h1000 hN1 hN2 hI (xs (nI i + (1 : Int32)).toNatClampNeg) (xs (nI i + (2 : Int32)).toNatClampNeg)
    exact ex_T q5 (ex_gd g1 (ex_gd g2 (ex_bd e1 (ex_gd g1 (ex_gd g2 (ex_bd e2 (ex_T rfl (hk A' σ2 hI'))))))))
  refine ex_F q5 ?_
  by_cases q6 : (xs (nI i).toNatClampNeg) &&& (31 : Int32) = (6 : Int32)
  · obtain ⟨r, σ1, σ2, A', e1, e2, hI'⟩ := pl_told h8 h200 h1000 hN1 hN2 hI (xs (nI i + (1 : Int32)).toNatClampNeg)
    exact ex_T q6 (ex_gd g1 (ex_bd e1 (ex_gd g1 (ex_bd e2 (ex_T rfl (hk A' σ2 hI'))))))
  refine ex_F q6 ?_
  by_cases q7 : (xs (nI i).toNatClampNeg) &&& (31 : Int32) = (7 : Int32)
  · obtain ⟨r, σ1, σ2, A', e1, e2, hI'⟩ := pl_go h8 h200 h1000 hN1 hN2 hI (xs (nI i + (1 : Int32)).toNatClampNeg) (xs (nI i + (2 : Int32)).toNatClampNeg) (xs (nI i + (3 : Int32)).toNatClampNeg)
    exact ex_T q7 (ex_gd g1 (ex_gd g2 (ex_gd g3 (ex_bd e1 (ex_gd g1 (ex_gd g2 (ex_gd g3 (ex_bd e2 (ex_T rfl (hk A' σ2 hI'))))))))))
  refine ex_F q7 ?_
  by_cases q8 : (xs (nI i).toNatClampNeg) &&& (31 : Int32) = (8 : Int32)
  · obtain ⟨r, σ1, σ2, A', e1, e2, hI'⟩ := pl_tally h8 h200 h1000 hN1 hN2 hI (xs (nI i + (1 : Int32)).toNatClampNeg) (xs (nI i + (2 : Int32)).toNatClampNeg) (xs (nI i + (3 : Int32)).toNatClampNeg)
    exact ex_T q8 (ex_gd g1 (ex_gd g2 (ex_gd g3 (ex_bd e1 (ex_gd g1 (ex_gd g2 (ex_gd g3 (ex_bd e2 (ex_T rfl (hk A' σ2 hI'))))))))))
  refine ex_F q8 ?_
  by_cases q9 : (xs (nI i).toNatClampNeg) &&& (31 : Int32) = (9 : Int32)
  · obtain ⟨r, σ1, σ2, A', e1, e2, hI'⟩ := pl_cost h8 h200 h1000 hN1 hN2 hI (xs (nI i + (1 : Int32)).toNatClampNeg)
    exact ex_T q9 (ex_gd g1 (ex_bd e1 (ex_gd g1 (ex_bd e2 (ex_T rfl (hk A' σ2 hI'))))))
  refine ex_F q9 ?_
  by_cases q10 : (xs (nI i).toNatClampNeg) &&& (31 : Int32) = (10 : Int32)
  · obtain ⟨r, σ1, σ2, A', e1, e2, hI'⟩ := pl_gate h8 h200 h1000 hN1 hN2 hI (xs (nI i + (1 : Int32)).toNatClampNeg)
    exact ex_T q10 (ex_gd g1 (ex_bd e1 (ex_gd g1 (ex_bd e2 (ex_T rfl (hk A' σ2 hI'))))))
  refine ex_F q10 ?_
  by_cases q11 : (xs (nI i).toNatClampNeg) &&& (31 : Int32) = (11 : Int32)
  · obtain ⟨r, σ1, σ2, A', e1, e2, hI'⟩ := pl_fresh h8 h200 h1000 hN1 hN2 hI (xs (nI i + (1 : Int32)).toNatClampNeg) (xs (nI i + (2 : Int32)).toNatClampNeg)
    exact ex_T q11 (ex_gd g1 (ex_gd g2 (ex_bd e1 (ex_gd g1 (ex_gd g2 (ex_bd e2 (ex_T rfl (hk A' σ2 hI'))))))))
  refine ex_F q11 ?_
  by_cases q12 : (xs (nI i).toNatClampNeg) &&& (31 : Int32) = (12 : Int32)
  · obtain ⟨r, σ1, σ2, A', e1, e2, hI'⟩ := pl_need h8 h200 h1000 hN1 hN2 hI (xs (nI i + (1 : Int32)).toNatClampNeg) (xs (nI i + (2 : Int32)).toNatClampNeg)
    exact ex_T q12 (ex_gd g1 (ex_gd g2 (ex_bd e1 (ex_gd g1 (ex_gd g2 (ex_bd e2 (ex_T rfl (hk A' σ2 hI'))))))))
  refine ex_F q12 ?_
  by_cases q13 : (xs (nI i).toNatClampNeg) &&& (31 : Int32) = (13 : Int32)
  · obtain ⟨r, σ1, σ2, A', e1, e2, hI'⟩ := pl_way h8 h200 h1000 hN1 hN2 hI (xs (nI i + (1 : Int32)).toNatClampNeg) (xs (nI i + (2 : Int32)).toNatClampNeg)
    exact ex_T q13 (ex_gd g1 (ex_gd g2 (ex_bd e1 (ex_gd g1 (ex_gd g2 (ex_bd e2 (ex_T rfl (hk A' σ2 hI'))))))))
  refine ex_F q13 ?_
  by_cases q14 : (xs (nI i).toNatClampNeg) &&& (31 : Int32) = (14 : Int32)
  · obtain ⟨r, σ1, σ2, A', e1, e2, hI'⟩ := pl_errands h8 h200 h1000 hN1 hN2 hI (xs (nI i + (1 : Int32)).toNatClampNeg) (xs (nI i + (2 : Int32)).toNatClampNeg) (xs (nI i + (3 : Int32)).toNatClampNeg)
    exact ex_T q14 (ex_gd g1 (ex_gd g2 (ex_gd g3 (ex_bd e1 (ex_gd g1 (ex_gd g2 (ex_gd g3 (ex_bd e2 (ex_T rfl (hk A' σ2 hI'))))))))))
  refine ex_F q14 ?_
  by_cases q15 : (xs (nI i).toNatClampNeg) &&& (31 : Int32) = (15 : Int32)
  · obtain ⟨r, σ1, σ2, A', e1, e2, hI'⟩ := pl_stand h8 h200 h1000 hN1 hN2 hI 
    exact ex_T q15 (ex_bd e1 (ex_bd e2 (ex_T rfl (hk A' σ2 hI'))))
  refine ex_F q15 ?_
  by_cases q16 : (xs (nI i).toNatClampNeg) &&& (31 : Int32) = (16 : Int32)
  · obtain ⟨r, σ1, σ2, A', e1, e2, hI'⟩ := pl_ways h8 h200 h1000 hN1 hN2 hI (xs (nI i + (1 : Int32)).toNatClampNeg) (xs (nI i + (2 : Int32)).toNatClampNeg) (xs (nI i + (3 : Int32)).toNatClampNeg)
    exact ex_T q16 (ex_gd g1 (ex_gd g2 (ex_gd g3 (ex_bd e1 (ex_gd g1 (ex_gd g2 (ex_gd g3 (ex_bd e2 (ex_T (lg_self r) (hk A' σ2 hI'))))))))))
  refine ex_F q16 ?_
  by_cases q17 : (xs (nI i).toNatClampNeg) &&& (31 : Int32) = (17 : Int32)
  · obtain ⟨r, σ1, σ2, A', e1, e2, hI'⟩ := pl_stray h8 h200 h1000 hN1 hN2 hI (xs (nI i + (1 : Int32)).toNatClampNeg) (xs (nI i + (2 : Int32)).toNatClampNeg) (xs (nI i + (3 : Int32)).toNatClampNeg) (xs (nI i + (4 : Int32)).toNatClampNeg)
    exact ex_T q17 (ex_gd g1 (ex_gd g2 (ex_gd g3 (ex_gd g4 (ex_bd e1 (ex_gd g1 (ex_gd g2 (ex_gd g3 (ex_gd g4 (ex_bd e2 (ex_T (lg_self r) (hk A' σ2 hI'))))))))))))
  refine ex_F q17 ?_
  by_cases q18 : (xs (nI i).toNatClampNeg) &&& (31 : Int32) = (18 : Int32)
  · obtain ⟨r, σ1, σ2, A', e1, e2, hI'⟩ := pl_tell h8 h200 h1000 hN1 hN2 hI (xs (nI i + (1 : Int32)).toNatClampNeg) (xs (nI i + (2 : Int32)).toNatClampNeg)
    exact ex_T q18 (ex_gd g1 (ex_gd g2 (ex_bd e1 (ex_gd g1 (ex_gd g2 (ex_bd e2 (ex_T rfl (hk A' σ2 hI'))))))))
  refine ex_F q18 ?_
  by_cases q19 : (xs (nI i).toNatClampNeg) &&& (31 : Int32) = (19 : Int32)
  · obtain ⟨r, σ1, σ2, A', e1, e2, hI'⟩ := pl_wrong h8 h200 h1000 hN1 hN2 hI (xs (nI i + (1 : Int32)).toNatClampNeg)
    exact ex_T q19 (ex_gd g1 (ex_bd e1 (ex_gd g1 (ex_bd e2 (ex_T rfl (hk A' σ2 hI'))))))
  refine ex_F q19 ?_
  by_cases q20 : (xs (nI i).toNatClampNeg) &&& (31 : Int32) = (20 : Int32)
  · obtain ⟨r, σ1, σ2, A', e1, e2, hI'⟩ := pl_act h8 h200 h1000 hN1 hN2 hI (xs (nI i + (1 : Int32)).toNatClampNeg) (xs (nI i + (2 : Int32)).toNatClampNeg) (xs (nI i + (3 : Int32)).toNatClampNeg)
    exact ex_T q20 (ex_gd g1 (ex_gd g2 (ex_gd g3 (ex_bd e1 (ex_gd g1 (ex_gd g2 (ex_gd g3 (ex_bd e2 (ex_T rfl (hk A' σ2 hI'))))))))))
  refine ex_F q20 ?_
  by_cases q21 : (xs (nI i).toNatClampNeg) &&& (31 : Int32) = (21 : Int32)
  · obtain ⟨r, σ1, σ2, A', e1, e2, hI'⟩ := pl_trace h8 h200 h1000 hN1 hN2 hI (xs (nI i + (1 : Int32)).toNatClampNeg)
    exact ex_T q21 (ex_gd g1 (ex_bd e1 (ex_gd g1 (ex_bd e2 (ex_T rfl (hk A' σ2 hI'))))))
  refine ex_F q21 ?_
  by_cases q22 : (xs (nI i).toNatClampNeg) &&& (31 : Int32) = (22 : Int32)
  · obtain ⟨r, σ1, σ2, A', e1, e2, hI'⟩ := pl_as h8 h200 h1000 hN1 hN2 hI (xs (nI i + (1 : Int32)).toNatClampNeg) (xs (nI i + (2 : Int32)).toNatClampNeg)
    exact ex_T q22 (ex_gd g1 (ex_gd g2 (ex_bd e1 (ex_gd g1 (ex_gd g2 (ex_bd e2 (ex_T rfl (hk A' σ2 hI'))))))))
  refine ex_F q22 ?_
  by_cases q23 : (xs (nI i).toNatClampNeg) &&& (31 : Int32) = (23 : Int32)
  · obtain ⟨r, σ1, σ2, A', e1, e2, hI'⟩ := pl_image h8 h200 h1000 hN1 hN2 hI 
    exact ex_T q23 (ex_bd e1 (ex_bd e2 (ex_T rfl (hk A' σ2 hI'))))
  refine ex_F q23 ?_
  by_cases q24 : (xs (nI i).toNatClampNeg) &&& (31 : Int32) = (24 : Int32)
  · obtain ⟨r, σ1, σ2, A', e1, e2, hI'⟩ := pl_undo h8 h200 h1000 hN1 hN2 hI 
    exact ex_T q24 (ex_bd e1 (ex_bd e2 (ex_T rfl (hk A' σ2 hI'))))
  refine ex_F q24 ?_
  by_cases q25 : (xs (nI i).toNatClampNeg) &&& (31 : Int32) = (25 : Int32)
  · obtain ⟨r, σ1, σ2, A', e1, e2, hI'⟩ := pl_count h8 h200 h1000 hN1 hN2 hI (xs (nI i + (1 : Int32)).toNatClampNeg)
    exact ex_T q25 (ex_gd g1 (ex_bd e1 (ex_gd g1 (ex_bd e2 (ex_T rfl (hk A' σ2 hI'))))))
  refine ex_F q25 ?_
  exact hk A σ hI
theorem pl_sub {i : Nat} (hL : L ≤ 320) (hi : i ≤ 1000) : (nI L - (5 : Int32) < nI i) = (L < i + 5) := by
  have e : nI L - (5 : Int32) = zI ((L : Int) - 5) := by
    rw [l_5, nI_z, nI_z, zI_sub]
    rfl
  rw [e, nI_z]
  by_cases h : L < i + 5
  · exact (eq_true (zlt_T (by omega) (by omega) (by omega))).trans (eq_true h).symm
  · exact (eq_false (zlt_F (by omega) (by omega) (by omega))).trans (eq_false h).symm
theorem pl_loop (h8 : N = n8 + 8) (h200 : N = n200 + 200) (h1000 : N = n1000 + 1000) (hN1 : 140000 ≤ n200) (hN2 : n200 < 900000) (hL : L ≤ 320) : ∀ (m F i : Nat) (σ : Sg) (A : Ab), m + 1 ≤ F → L < i + 5 + 5 * m → i ≤ L → Inv A σ → ∃ s, b_L_law_18 N L xs F (nI i) σ = some (1, s) := by
  intro m
  induction m with
  | zero =>
    intro F i σ A hF hm hi hI
    obtain ⟨F', rfl⟩ : ∃ F', F = F' + 1 := ⟨F - 1, by omega⟩
    refine ⟨σ, ?_⟩
    show b_L_law_18b N L xs (b_L_law_18 N L xs F') _ _ = _
    unfold b_L_law_18b
    exact if_T (by rw [pl_sub hL (by omega)]; omega) rfl
  | succ m ih =>
    intro F i σ A hF hm hi hI
    obtain ⟨F', rfl⟩ : ∃ F', F = F' + 1 := ⟨F - 1, by omega⟩
    show ∃ s, b_L_law_18b N L xs (b_L_law_18 N L xs F') _ _ = _
    by_cases h : L < i + 5
    · refine ⟨σ, ?_⟩
      unfold b_L_law_18b
      exact if_T (by rw [pl_sub hL (by omega)]; exact h) rfl
    · refine pl_step h8 h200 h1000 hN1 hN2 (fun A' σ' hI' => ?_) (by rw [pl_sub hL (by omega)]; exact h) (inb_nI (by omega) (by omega)) (by rw [l_1, nI_add]; exact inb_nI (by omega) (by omega)) (by rw [l_2, nI_add]; exact inb_nI (by omega) (by omega)) (by rw [l_3, nI_add]; exact inb_nI (by omega) (by omega)) (by rw [l_4, nI_add]; exact inb_nI (by omega) (by omega)) hI
      unfold b_L_law_948
      show ∃ s, b_L_law_18 N L xs F' (nI i + (5 : Int32)) σ' = _
      rw [l_5, nI_add]
      exact ih F' (i + 5) σ' A' (by omega) (by omega) (by omega) hI'
end LL
theorem pl_fuel : ∃ N n8 n200 n1000 : Nat, N = n8 + 8 ∧ N = n200 + 200 ∧ N = n1000 + 1000 ∧ 140000 ≤ n200 ∧ n200 < 900000 := ⟨150200, 150192, 150000, 149200, by decide, by decide, by decide, Nat.le_of_ble_eq_true rfl, Nat.le_of_ble_eq_true rfl⟩
theorem pure_law (L : Nat) (xs : Nat → Int32) (hL : L ≤ 320) : ∃ (N : Nat) (σ' : Sg), b_L_law_18 N L xs N 0 am_s0 = some (1, σ') := by
  obtain ⟨N, n8, n200, n1000, h8, h200, h1000, hN1, hN2⟩ := pl_fuel
  obtain ⟨s, e⟩ := pl_loop (xs := xs) h8 h200 h1000 hN1 hN2 hL 64 N 0 am_s0 A0 (by omega) (by omega) (by omega) Inv0
  rw [n00] at e
  exact ⟨N, s, e⟩
