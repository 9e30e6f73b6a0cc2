/-! what clauses come to: the class's sum, the model's looks -/
def un (A : Ab) (k : Nat) : Nat := (ii A k - oo A k) + (oo A k - ii A k)
def fct (A : Ab) (k i : Nat) : Nat := if i = 0 then k else if i = 1 then kd A k else if i = 2 then un A k else if i = 3 then aD A % 7 else popc (ld A k)
def tst (F : Nat → Nat) (c : Nat) : Bool := if c / 100 % 3 = 0 then decide (F (c / 300) < c % 100) else if c / 100 % 3 = 1 then decide (F (c / 300) = c % 100) else decide (c % 100 < F (c / 300))
def nt1 : List Bool → List Bool
  | b :: s => (!b) :: s
  | [] => []
def an2 : List Bool → List Bool
  | b :: a :: s => (a && b) :: s
  | s => s
def or2 : List Bool → List Bool
  | b :: a :: s => (a || b) :: s
  | s => s
def stp (F : Nat → Nat) (c : Nat) (st : List Bool) : List Bool := if c < 1500 then tst F c :: st else if c = 2000 then nt1 st else if c = 2001 then an2 st else or2 st
def evs (F : Nat → Nat) : List Nat → List Bool → List Bool
  | [], st => st
  | c :: l, st => evs F l (stp F c st)
def enc : List Bool → Nat
  | [] => 0
  | b :: s => 2 * enc s + b.toNat
theorem enc_lt : ∀ st : List Bool, enc st < 2 ^ st.length
  | [] => by decide
  | b :: s => by
    have h := enc_lt s
    have hb : b.toNat ≤ 1 := by cases b <;> decide
    show 2 * enc s + b.toNat < 2 ^ (s.length + 1)
    rw [Nat.pow_succ]
    omega
theorem enc16 {st : List Bool} (h : st.length ≤ 16) : enc st < 65536 := Nat.lt_of_lt_of_le (enc_lt st) (Nat.pow_le_pow_right (by decide : 0 < 2) h : 2 ^ st.length ≤ 2 ^ 16)
theorem tbit (f : Nat) (a : Bool) : ∀ i, (2 * f + a.toNat).testBit i = match i with
    | 0 => a
    | i + 1 => f.testBit i
  | 0 => by
    rw [Nat.testBit_zero]
    cases a
    · show decide ((2 * f + 0) % 2 = 1) = false
      rw [decide_eq_false]
      omega
    · show decide ((2 * f + 1) % 2 = 1) = true
      rw [decide_eq_true]
      omega
  | i + 1 => by
    rw [Nat.testBit_succ]
    have : (2 * f + a.toNat) / 2 = f := by cases a <;> (simp only [Bool.toNat_false, Bool.toNat_true]; omega)
    rw [this]
theorem nI_bit (n i : Nat) (hi : i < 32) : (nI n).toBitVec.getLsbD i = n.testBit i := by
  show (BitVec.ofNat 32 n).getLsbD i = _
  rw [BitVec.getLsbD_ofNat, decide_eq_true hi, Bool.true_and]
theorem i_ext {x y : Int32} (h : ∀ i, i < 32 → x.toBitVec.getLsbD i = y.toBitVec.getLsbD i) : x = y := Int32.toBitVec_inj.mp (BitVec.eq_of_getLsbD_eq h)
theorem bt_one (t : Bool) (i : Nat) : t.toNat.testBit i = match i with
    | 0 => t
    | _ + 1 => false := by
  have h := tbit 0 t i
  rw [Nat.mul_zero, Nat.zero_add] at h
  rw [h]
  cases i with
  | zero => rfl
  | succ i => exact Nat.zero_testBit i
theorem bb_or (f : Nat) (a t : Bool) : nI (2 * f + a.toNat) ||| nI t.toNat = nI (2 * f + (a || t).toNat) := by
  refine i_ext fun i hi => ?_
  rw [Int32.toBitVec_or, BitVec.getLsbD_or, nI_bit _ _ hi, nI_bit _ _ hi, nI_bit _ _ hi, tbit, tbit, bt_one]
  cases i with
  | zero => rfl
  | succ i => exact Bool.or_false _
theorem bb_xor (f : Nat) (a : Bool) : nI (2 * f + a.toNat) ^^^ nI 1 = nI (2 * f + (!a).toNat) := by
  refine i_ext fun i hi => ?_
  have h1 := bt_one true i
  rw [Int32.toBitVec_xor, BitVec.getLsbD_xor, nI_bit _ _ hi, nI_bit _ _ hi, nI_bit _ _ hi, tbit, tbit, show (1 : Nat) = true.toNat from rfl, h1]
  cases i with
  | zero => cases a <;> rfl
  | succ i => exact Bool.xor_false _
theorem bb_and (f : Nat) (a : Bool) : nI (2 * f + a.toNat) &&& nI 1 = nI a.toNat := by
  refine i_ext fun i hi => ?_
  have h1 := bt_one true i
  rw [Int32.toBitVec_and, BitVec.getLsbD_and, nI_bit _ _ hi, nI_bit _ _ hi, nI_bit _ _ hi, tbit, bt_one, show (1 : Nat) = true.toNat from rfl, h1]
  cases i with
  | zero => exact Bool.and_true _
  | succ i => exact Bool.and_false _
theorem bb_m2 : ∀ i, i < 32 → (-2 : Int32).toBitVec.getLsbD i = match i with
    | 0 => false
    | _ + 1 => true := by decide
theorem bb_an (f : Nat) (a t : Bool) : nI (2 * f + a.toNat) &&& (nI t.toNat ||| -2) = nI (2 * f + (a && t).toNat) := by
  refine i_ext fun i hi => ?_
  rw [Int32.toBitVec_and, BitVec.getLsbD_and, Int32.toBitVec_or, BitVec.getLsbD_or, nI_bit _ _ hi, nI_bit _ _ hi, nI_bit _ _ hi, tbit, tbit, bt_one, bb_m2 i hi]
  cases i with
  | zero => show (a && (t || false)) = (a && t); rw [Bool.or_false]
  | succ i => exact Bool.and_true _
theorem i_nn {c : Nat} (h : c < 2 ^ 31) {x : Int32} (hx : x.toInt < 0) : ¬ nI c = x := by
  intro q
  rw [← q, nI_toInt h] at hx
  omega
theorem b_if (b : Bool) : (if b = true then nI 1 else nI 0) = nI b.toNat := by cases b <;> rfl
/-- the class's test -/
theorem x_pass6 {N : Nat} {F : Nat → Nat} {σ : Sg} (hF : ∀ i, i < 5 → ar σ 30 i = nI (F i) ∧ F i < 2 ^ 31) {c : Nat} (hc : c < 1500) : f_X5_passes N (nI c) σ = some (nI (tst F c).toNat, σ) := by
  have hq : c / 300 < 5 := by omega
  obtain ⟨f1, f2⟩ := hF (c / 300) hq
  unfold f_X5_passes tst
  rw [l_300, l_100, l_3, pk_div (by omega) (by omega) (by omega), pk_rem (by omega) (by omega) (by omega), pk_div (by omega) (by omega) (by omega), pk_rem (by omega) (by omega) (by omega)]
  refine nm_k (if_F (of_eq_false (ilt_F (Nat.zero_le _) (by omega))) (if_T (of_eq_true (ilt_T hq (by decide))) (nm_k ?_)))
  by_cases h0 : c / 100 % 3 = 0
  · rw [if_pos h0]
    refine if_T (by rw [h0]; rfl) (gd_k (inb_nI hq (by decide)) ?_)
    rw [nI_clamp (by omega), f1]
    by_cases h : F (c / 300) < c % 100
    · rw [decide_eq_true h]
      exact if_F (of_eq_false (ile_F h (by omega))) rfl
    · rw [decide_eq_false h]
      exact if_T (of_eq_true (ile_T (Nat.le_of_not_lt h) f2)) rfl
  · rw [if_neg h0]
    refine if_F (of_eq_false (ieq_F h0 (by omega) (by decide))) ?_
    by_cases h1 : c / 100 % 3 = 1
    · rw [if_pos h1]
      refine if_T (by rw [h1]; rfl) (gd_k (inb_nI hq (by decide)) ?_)
      rw [nI_clamp (by omega), f1]
      by_cases h : F (c / 300) = c % 100
      · rw [decide_eq_true h]
        exact if_T (by rw [h]) rfl
      · rw [decide_eq_false h]
        exact if_F (of_eq_false (ieq_F h f2 (by omega))) rfl
    · rw [if_neg h1]
      refine if_F (of_eq_false (ieq_F h1 (by omega) (by decide))) (gd_k (inb_nI hq (by decide)) ?_)
      rw [nI_clamp (by omega), f1]
      by_cases h : c % 100 < F (c / 300)
      · rw [decide_eq_true h]
        exact if_F (of_eq_false (ile_F h f2)) rfl
      · rw [decide_eq_false h]
        exact if_T (of_eq_true (ile_T (Nat.le_of_not_lt h) (by omega))) rfl
/-- a code has the operands that it takes, and room -/
def cok (c d : Nat) : Prop := (c < 1500 ∧ d < 16) ∨ (c = 2000 ∧ 1 ≤ d) ∨ ((c = 2001 ∨ c = 2002) ∧ 2 ≤ d)
def cnx (c d : Nat) : Nat := if c < 1500 then d + 1 else if c = 2000 then d else d - 1
theorem cdep_cons {c d e : Nat} {l : List Nat} (h : cdep (c :: l) d = some e) : cok c d ∧ cdep l (cnx c d) = some e := by
  unfold cdep at h
  unfold cok cnx
  by_cases h1 : c < 1500
  · rw [if_pos h1] at h ⊢
    by_cases h2 : d < 16
    · rw [if_pos h2] at h
      exact ⟨Or.inl ⟨h1, h2⟩, h⟩
    · rw [if_neg h2] at h
      cases h
  · rw [if_neg h1] at h ⊢
    by_cases h3 : c = 2000
    · rw [if_pos h3] at h ⊢
      by_cases h2 : 1 ≤ d
      · rw [if_pos h2] at h
        exact ⟨Or.inr (Or.inl ⟨h3, h2⟩), h⟩
      · rw [if_neg h2] at h
        cases h
    · rw [if_neg h3] at h ⊢
      by_cases h4 : c = 2001 ∨ c = 2002
      · rw [if_pos h4] at h
        by_cases h2 : 2 ≤ d
        · rw [if_pos h2] at h
          exact ⟨Or.inr (Or.inr ⟨h4, h2⟩), h⟩
        · rw [if_neg h2] at h
          cases h
      · rw [if_neg h4] at h
        cases h
theorem stp_len {F : Nat → Nat} {c : Nat} {st : List Bool} (h : cok c st.length) : (stp F c st).length = cnx c st.length := by
  unfold stp cnx
  rcases h with ⟨h1, h2⟩ | ⟨rfl, h2⟩ | ⟨h1, h2⟩
  · rw [if_pos h1, if_pos h1]
    rfl
  · match st, h2 with
    | b :: s, _ => rfl
  · match st, h2 with
    | b :: a :: s, _ => rcases h1 with rfl | rfl <;> rfl
theorem cnx_16 {c d : Nat} (h : cok c d) (hd : d ≤ 16) : cnx c d ≤ 16 := by
  unfold cnx
  rcases h with ⟨h1, h2⟩ | ⟨rfl, h2⟩ | ⟨h1, h2⟩
  · rw [if_pos h1]; omega
  · rw [if_neg (by decide), if_pos rfl]; exact hd
  · rw [if_neg (by omega), if_neg (by omega)]; omega
theorem evs_len {F : Nat → Nat} : ∀ (l : List Nat) (st : List Bool) {e : Nat}, cdep l st.length = some e → (evs F l st).length = e
  | [], st, e, h => Option.some.inj h
  | c :: l, st, e, h => by
    obtain ⟨h1, h2⟩ := cdep_cons h
    rw [← stp_len (F := F) h1] at h2
    exact evs_len l _ h2
theorem x_stp6 {N : Nat} {F : Nat → Nat} {σ : Sg} (hF : ∀ i, i < 5 → ar σ 30 i = nI (F i) ∧ F i < 2 ^ 31) {c i e : Nat} {st : List Bool} (k : Int32 → Int32 → Int32 → Sg → Option (Int32 × Sg)) (hi : i < 100) (hie : i < e) (he : e ≤ 100) (hc : ar σ 29 i = cc1 c) (h : cok c st.length) (h16 : st.length ≤ 16) : b_X5_holds_5b N k (nI e) (nI (enc st)) (nI i) σ = k (nI e) (nI (enc (stp F c st))) (nI (i + 1)) σ := by
  have hen := enc16 h16
  unfold b_X5_holds_5b b_X5_holds_100 b_X5_holds_102
  refine if_F (of_eq_false (ile_F hie (by omega))) (nm_k (gd_k (inb_nI hi (by decide)) ?_))
  rw [nI_clamp (by omega), hc, l_1, nI_add]
  rcases h with ⟨h1, h2⟩ | ⟨rfl, h2⟩ | ⟨h1, h2⟩
  · have e1 : cc1 c = nI c := by
      unfold cc1
      rw [if_neg (by omega), if_neg (by omega), if_neg (by omega)]
    have e2 : stp F c st = tst F c :: st := if_pos h1
    rw [e1, e2]
    refine if_F (i_nn (by omega) (by decide)) (if_F (i_nn (by omega) (by decide)) (if_F (i_nn (by omega) (by decide)) (gd_k (inb_nI hi (by decide)) (bd2_k (x_pass6 hF h1) ?_))))
    have es : nI (enc st) <<< (nI 1 &&& 31) = nI (2 * enc st + false.toNat) := by
      rw [pk_shlN _ 1 (by decide) (by omega)]
      congr 1
      show enc st * 2 = 2 * enc st + 0
      omega
    rw [es]
    cases hb : tst F c
    · refine if_T rfl ?_
      show k (nI e) (nI (2 * enc st + false.toNat) ||| nI false.toNat) (nI (i + 1)) σ = _
      rw [bb_or]
      rfl
    · refine if_F (by decide) ?_
      show k (nI e) (nI (2 * enc st + false.toNat) ||| nI true.toNat) (nI (i + 1)) σ = _
      rw [bb_or]
      rfl
  · match st, h2, hen with
    | b :: s, _, hen =>
      refine if_F (by decide) (if_F (by decide) (if_T rfl ?_))
      show k (nI e) (nI (2 * enc s + b.toNat) ^^^ nI 1) (nI (i + 1)) σ = _
      rw [bb_xor]
      rfl
  · match st, h2, hen with
    | b :: a :: s, _, hen =>
      have e1 : nI (enc (b :: a :: s)) >>> (nI 1 &&& 31) = nI (2 * enc s + a.toNat) := by
        rw [pk_shrN (by omega) _ 1 (by decide)]
        congr 1
        show (2 * (2 * enc s + a.toNat) + b.toNat) / 2 ^ 1 = _
        have hb : b.toNat ≤ 1 := by cases b <;> decide
        omega
      have e2 : nI (enc (b :: a :: s)) &&& nI 1 = nI b.toNat := bb_and _ _
      rw [e1, e2]
      rcases h1 with rfl | rfl
      · refine if_F (by decide) (if_T rfl ?_)
        show k (nI e) (nI (2 * enc s + a.toNat) &&& (nI b.toNat ||| -2)) (nI (i + 1)) σ = _
        rw [bb_an]
        rfl
      · refine if_T rfl ?_
        show k (nI e) (nI (2 * enc s + a.toNat) ||| nI b.toNat) (nI (i + 1)) σ = _
        rw [bb_or]
        rfl
theorem x_hold6l {N : Nat} {F : Nat → Nat} {σ : Sg} (hF : ∀ i, i < 5 → ar σ 30 i = nI (F i) ∧ F i < 2 ^ 31) {e : Nat} (he : e ≤ 100) : ∀ (l : List Nat) (st : List Bool) (i n : Nat), i + l.length = e → cdep l st.length = some 1 → st.length ≤ 16 → (∀ j, j < l.length → ar σ 29 (i + j) = cc1 (l.getD j 0)) → b_X5_holds_5 N (n + l.length + 1) (nI e) (nI (enc st)) (nI i) σ = some (nI ((evs F l st).headD false).toNat, σ)
  | [], st, i, n, hi, hc, h16, hl => by
    show b_X5_holds_5b N (b_X5_holds_5 N n) _ _ _ _ = _
    unfold b_X5_holds_5b
    have ei : i = e := hi
    subst ei
    have e1 : st.length = 1 := Option.some.inj hc
    match st, e1 with
    | [b], _ =>
      refine if_T (of_eq_true (ile_T (Nat.le_refl _) (by omega))) ?_
      have e2 : nI (enc [b]) &&& nI 1 = nI b.toNat := bb_and _ _
      rw [l_1, e2]
      cases b
      · exact if_F (by decide) rfl
      · exact if_T rfl rfl
  | c :: l, st, i, n, hi, hc, h16, hl => by
    obtain ⟨h1, h2⟩ := cdep_cons hc
    have hlen : (c :: l).length = l.length + 1 := rfl
    rw [hlen] at hi
    have ih := x_hold6l (N := N) hF he l (stp F c st) (i + 1) n (by omega) (by rw [stp_len h1]; exact h2) (by rw [stp_len h1]; exact cnx_16 h1 h16) (fun j hj => by
      have := hl (j + 1) (by rw [hlen]; omega)
      rw [show i + 1 + j = i + (j + 1) by omega]
      exact this)
    have k := x_stp6 (N := N) hF (b_X5_holds_5 N (n + l.length + 1)) (c := c) (i := i) (e := e) (st := st) (by omega) (by omega) he (hl 0 (by rw [hlen]; omega)) h1 h16
    exact k.trans ih
def tsum (F : Nat → Nat) (w : Nat) : Tw → Nat
  | [] => 0
  | q :: t => (if q.1 = w ∧ (evs F q.2.2 []).headD false = true then q.2.1 else 0) + tsum F w t
theorem twC_app (a b : Tw) : twC (a ++ b) = twC a ++ twC b := List.flatMap_append
theorem gD_mid (a b c : List Nat) (j : Nat) (h : j < b.length) : (a ++ b ++ c).getD (a.length + j) 0 = b.getD j 0 := by
  rw [List.append_assoc, List.getD_eq_getElem?_getD, List.getElem?_append_right (by omega), Nat.add_sub_cancel_left, List.getElem?_append_left h, ← List.getD_eq_getElem?_getD]
theorem getD_app {α : Type} (a b : List α) (x d : α) : (a ++ x :: b).getD a.length d = x := by
  rw [List.getD_eq_getElem?_getD, List.getElem?_append_right (Nat.le_refl _), Nat.sub_self]
  rfl
theorem take_app {α : Type} (a b : List α) : (a ++ b).take a.length = a := by
  rw [List.take_left']
  rfl
/-- the sum's loop over the clauses -/
theorem x_sum6l {N : Nat} {F : Nat → Nat} {σ : Sg} {t : Tw} (hF : ∀ i, i < 5 → ar σ 30 i = nI (F i) ∧ F i < 2 ^ 31) (hT : RT 3 26 t σ) (hO : twOK t) {w : Nat} (hw : w < 3) : ∀ (post pre : Tw) (a n : Nat), pre ++ post = t → b_X5_sum_67 (N + 200) (n + post.length + 1) (nI w) (nI a) (nI pre.length) σ = some (nI (a + tsum F w post), σ)
  | [], pre, a, n, ht => by
    rw [List.append_nil] at ht
    subst ht
    show b_X5_sum_67b (N + 200) (b_X5_sum_67 (N + 200) n) _ _ _ _ = _
    unfold b_X5_sum_67b
    rw [hT.1]
    have := hO.1
    exact if_T (of_eq_true (ile_T (Nat.le_refl _) (by omega))) rfl
  | q :: post, pre, a, n, ht => by
    have ih := fun a' => x_sum6l (N := N) hF hT hO hw post (pre ++ [q]) a' n (by rw [← ht, List.append_assoc]; rfl)
    have hlen : t.length = pre.length + (post.length + 1) := by rw [← ht, List.length_append]; rfl
    obtain ⟨o1, o2, o3⟩ := hO
    obtain ⟨t1, t2, t3, t4, t5⟩ := hT
    have hmem : q ∈ t := by rw [← ht]; exact List.mem_append_right _ List.mem_cons_self
    obtain ⟨q1, q2, q3⟩ := o3 q hmem
    obtain ⟨d1, d2⟩ := t3 pre.length (by omega)
    have eg : t.getD pre.length (0, 0, []) = q := by rw [← ht]; exact getD_app _ _ _ _
    rw [eg] at d1 d2
    have f1 := t4 pre.length (by omega)
    have f2 := t4 (pre.length + 1) (by omega)
    have g1 : twFrom t pre.length = (twC pre).length := by
      unfold twFrom
      rw [← ht, take_app]
    have ht2 : pre ++ [q] ++ post = t := by rw [← ht, List.append_assoc]; rfl
    have g2 : twFrom t (pre.length + 1) = (twC pre).length + q.2.2.length := by
      unfold twFrom
      have e : pre.length + 1 = (pre ++ [q]).length := by rw [List.length_append]; rfl
      rw [e, ← ht2, take_app, twC_app, List.length_append]
      congr 1
      show (q.2.2 ++ []).length = _
      rw [List.append_nil]
    rw [g1] at f1
    rw [g2] at f2
    have hC : twC t = twC pre ++ q.2.2 ++ twC post := by
      rw [← ht2, twC_app, twC_app]
      congr 2
      show q.2.2 ++ [] = _
      rw [List.append_nil]
    have hCl : (twC t).length = (twC pre).length + q.2.2.length + (twC post).length := by
      rw [hC, List.length_append, List.length_append]
    show b_X5_sum_67b (N + 200) (b_X5_sum_67 (N + 200) (n + post.length + 1)) _ _ _ _ = _
    unfold b_X5_sum_67b b_X5_sum_122
    have hpl : (pre ++ [q]).length = pre.length + 1 := by rw [List.length_append]; rfl
    rw [hpl] at ih
    rw [t1, hlen]
    refine if_F (of_eq_false (ile_F (by omega) (by omega))) (gd_k (inb_nI (by omega) (by decide)) ?_)
    rw [l_1, nI_add, nI_clamp (by omega), nI_clamp (by omega), d1, f1, f2]
    show _ = some (nI (a + ((if q.1 = w ∧ (evs F q.2.2 []).headD false = true then q.2.1 else 0) + tsum F w post)), σ)
    by_cases hqw : q.1 = w
    · refine if_T (by rw [hqw]) (gd_k (inb_nI (by omega) (by decide)) (gd_k (inb_nI (by omega) (by decide)) ?_))
      have hh := x_hold6l (N := N + 200) (F := F) (σ := σ) hF (e := (twC pre).length + q.2.2.length) (by omega) q.2.2 [] (twC pre).length (N + 199 - q.2.2.length) rfl q3 (Nat.zero_le _) (fun j hj => by
        rw [t5 _ (by omega), hC, gD_mid _ _ _ _ hj])
      rw [show N + 199 - q.2.2.length + q.2.2.length + 1 = N + 200 by omega] at hh
      refine bd2_k (k := fun v104 σ104 => _) (show f_X5_holds (N + 200) (nI (twC pre).length) (nI ((twC pre).length + q.2.2.length)) σ = _ from hh) ?_
      cases hb : (evs F q.2.2 []).headD false
      · refine if_T rfl ?_
        rw [if_neg (fun h => by cases h.2), Nat.zero_add]
        exact ih a
      · refine if_F (by decide) (gd_k (inb_nI (by omega) (by decide)) ?_)
        rw [if_pos ⟨hqw, rfl⟩, d2, nI_add, ← Nat.add_assoc]
        exact ih (a + q.2.1)
    · refine if_F (of_eq_false (ieq_F hqw (by omega) (by omega))) ?_
      rw [if_neg (fun h => hqw h.1), Nat.zero_add]
      exact ih a
/-- nothing else than row 30 has changed -/
def O30 (σ σ' : Sg) : Prop := rg σ' = rg σ ∧ al σ' = al σ ∧ ∀ k, k ≠ 30 → ar σ' k = ar σ k
theorem O30.rf (σ : Sg) : O30 σ σ := ⟨rfl, rfl, fun _ _ => rfl⟩
theorem O30.tr {a b c : Sg} (h : O30 a b) (g : O30 b c) : O30 a c := ⟨g.1.trans h.1, g.2.1.trans h.2.1, fun k hk => (g.2.2 k hk).trans (h.2.2 k hk)⟩
theorem O30.sar {a b : Sg} (h : O30 a b) (j : Nat) (v : Int32) : O30 a (sar b 30 j v) := ⟨h.1, h.2.1, fun k hk => (ar_sar_ne hk).trans (h.2.2 k hk)⟩
theorem O30.sm {a b : Sg} (h : O30 a b) : Sm a b := ⟨fun k j _ => by rw [h.1], fun k hk => h.2.2 k (fun q => by subst q; cases hk)⟩
theorem iabs_sub {a b : Nat} (ha : a ≤ 9999) (hb : b ≤ 9999) : iabs (nI a - nI b) = nI ((a - b) + (b - a)) := by
  unfold iabs
  have h := pk_sub_toInt (a := a) (b := b) (by omega) (by omega)
  by_cases hab : b ≤ a
  · rw [pk_sub hab]
    rw [if_pos (show (0 : Int32) ≤ nI (a - b) from of_eq_true (ile_T (Nat.zero_le _) (by omega)))]
    congr 1
    omega
  · rw [if_neg (fun q => by
      have := Int32.le_iff_toInt_le.mp q
      rw [h] at this
      have h0 : (0 : Int32).toInt = 0 := by decide
      omega)]
    have : (0 : Int32) - (nI a - nI b) = nI b - nI a := by
      rw [Int32.zero_sub, Int32.neg_sub]
    rw [this, pk_sub (by omega)]
    congr 1
    omega
theorem popc_lt {n : Nat} (h : n < 128) : popc n < 8 := by
  have : ∀ n, n < 128 → popc n < 8 := by decide +kernel
  exact this n h
theorem fct_lt {A : Ab} (hA : AOK A) {k : Nat} (hk : k < aS A) (i : Nat) : fct A k i < 2 ^ 31 := by
  obtain ⟨⟨hS7, hD99, -⟩, hAS, -⟩ := hA
  obtain ⟨p1, p2, p3, p4, p5, p6⟩ := hAS k hk
  have := popc_lt (p2_le hS7 p5)
  unfold fct un
  split
  · omega
  split
  · omega
  split
  · omega
  split
  · omega
  · omega
theorem RC.o30 {A : Ab} {σ σ' : Sg} (h : RC 1 10 3 26 A σ) (g : O30 σ σ') : RC 1 10 3 26 A σ' := h.same (fun j => by rw [g.1]) (fun k hk => g.2.2 _ (by omega)) (fun j => by rw [g.1]) (fun k hk => g.2.2 _ (by omega))
theorem x_sum6 {N : Nat} {σ : Sg} {A : Ab} (hA : AOK A) (hC : RC 1 10 3 26 A σ) {k w : Nat} (hk : k < aS A) (hw : w < 3) : ∃ σ', f_X5_sum (N + 200) (nI w) (nI k) σ = some (nI (tsum (fct A k) w (tw A)), σ') ∧ O30 σ σ' := by
  have hlt := fun i => fct_lt hA hk i
  have hA' := hA
  obtain ⟨⟨hS7, hD99, hT100, hW5, hZ7⟩, hAS, hAT, hAZ, hAW, hAW0⟩ := hA
  obtain ⟨p1, p2, p3, p4, p5, p6⟩ := hAS k hk
  obtain ⟨⟨c1, c2, c3, c4, c5⟩, cS, cT, cZ, cW⟩ := id hC
  obtain ⟨d1, d2, d3, d4, d5⟩ := cS k hk
  let s1 := sar σ 30 0 (nI k)
  let s2 := sar s1 30 1 (nI (kd A k))
  let s3 := sar s2 30 2 (nI (un A k))
  let s4 := sar s3 30 3 (nI (aD A % 7))
  let s5 := sar s4 30 4 (nI (popc (ld A k)))
  have o5 : O30 σ s5 := ((((O30.rf σ).sar _ _).sar _ _).sar _ _).sar _ _ |>.sar _ _
  refine ⟨s5, ?_, o5⟩
  have hC5 := hC.o30 o5
  have hF : ∀ i, i < 5 → ar s5 30 i = nI (fct A k i) ∧ fct A k i < 2 ^ 31 := by
    intro i hi
    refine ⟨?_, hlt i⟩
    match i, hi with
    | 0, _ => rfl
    | 1, _ => rfl
    | 2, _ => rfl
    | 3, _ => rfl
    | 4, _ => rfl
    | i + 5, h => exact absurd h (by omega)
  have hl := x_sum6l (N := N) hF hC5.2.2.2.2 hAW hw (tw A) [] 0 (N + 199 - (tw A).length) rfl
  have ht1 := hAW.1
  rw [show N + 199 - (tw A).length + (tw A).length + 1 = N + 200 by omega, Nat.zero_add] at hl
  unfold f_X5_sum
  refine gd_k rfl (nm_k (gd_k (inb_nI (by omega) (by decide)) (gd_k rfl (nm_k ?_))))
  rw [nI_clamp (by omega)]
  rw [show ar (sar σ 30 (0 : Int32).toNatClampNeg (nI k)) 10 k = nI (kd A k) from d1]
  have e3 : f_X4_uneven (N + 200) (nI k) s2 = some (nI (ii A k) - nI (oo A k), s2) := by
    unfold f_X4_uneven
    refine gd_k (inb_nI (by omega) (by decide)) (gd_k (inb_nI (by omega) (by decide)) ?_)
    rw [nI_clamp (by omega)]
    rw [show ar s2 12 k = nI (ii A k) from d3, show ar s2 13 k = nI (oo A k) from d4]
  refine bd2_k e3 (gd_k rfl (nm_k (gd_k rfl ?_)))
  rw [iabs_sub p3 p4]
  have e4 : rg (sar s2 30 (2 : Int32).toNatClampNeg (nI (ii A k - oo A k + (oo A k - ii A k)))) 1 6 = nI (aD A) := c2
  rw [e4, l_7, pk_rem (by omega) (by omega) (by omega)]
  refine nm_k (gd_k (inb_nI (by omega) (by decide)) ?_)
  have e5 : ar (sar (sar s2 30 (2 : Int32).toNatClampNeg (nI (ii A k - oo A k + (oo A k - ii A k)))) 30 (3 : Int32).toNatClampNeg (nI (aD A % 7))) 14 k = nI (ld A k) := d5
  rw [e5]
  exact bd2_k (x_bits (p2_le hS7 p5)) (gd_k rfl (nm_k hl))
