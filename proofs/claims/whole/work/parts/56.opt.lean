/-! plain mathematics: what a step keeps, and what the end says -/
def posS (ex : Nat → Int) : Int := s8 (fun v => max (ex v) 0)
theorem s8_ge {F : Nat → Int} (h : ∀ v, v < 8 → 0 ≤ F v) {k : Nat} (hk : k < 8) : F k ≤ s8 F := by
  have e : s8 F = s8 (fun v => if k = v then F v else 0) + s8 (fun v => if k = v then 0 else F v) := by
    rw [← s8_add]
    exact s8_congr fun v _ => by (try dsimp only); split <;> omega
  rw [s8_one hk] at e
  have : 0 ≤ s8 (fun v => if k = v then 0 else F v) := s8_nn fun v hv => by
    (try dsimp only)
    split
    · omega
    · exact h v hv
  omega
theorem posS_nn (ex : Nat → Int) : 0 ≤ posS ex := s8_nn fun v _ => by (try dsimp only); omega
theorem posS_ge (ex : Nat → Int) {v : Nat} (hv : v < 8) : ex v ≤ posS ex := by
  have := s8_ge (F := fun v => max (ex v) 0) (fun v _ => by (try dsimp only); omega) hv
  have h2 : max (ex v) 0 ≤ posS ex := this
  omega
def exN (ex : Nat → Int) (r t : Nat) (amt : Int) : Nat → Int := fun v => (ex v - (if v = r then amt else 0)) + (if v = t then amt else 0)
theorem posS_N {ex : Nat → Int} {r t : Nat} {amt : Int} (hr : r < 8) (h0 : 0 ≤ amt) (h1 : amt ≤ ex r) (h2 : amt ≤ -(ex t)) : posS (exN ex r t amt) = posS ex - amt := by
  have e : posS ex - posS (exN ex r t amt) = s8 (fun v => if r = v then amt else 0) := by
    unfold posS
    rw [← s8_sub]
    refine s8_congr fun v _ => ?_
    show max (ex v) 0 - max ((ex v - (if v = r then amt else 0)) + (if v = t then amt else 0)) 0 = if r = v then amt else 0
    by_cases q : v = r
    · subst q
      by_cases q2 : v = t
      · subst q2
        rw [if_pos rfl]
        omega
      · rw [if_pos rfl, if_neg q2]
        omega
    · by_cases q2 : v = t
      · subst q2
        rw [if_neg q, if_pos rfl, if_neg (fun w => q w.symm)]
        omega
      · rw [if_neg q, if_neg q2, if_neg (fun w => q w.symm)]
        omega
  rw [s8_one (F := fun _ => amt) hr] at e
  omega
/-- what is kept -/
def NI (n : Nat) (sr ds : Nat → Nat) (co cp x : Nat → Int) (R0 : Int) (ex fl : Nat → Int) (S : Int) : Prop := (∀ q, q < n → 0 ≤ fl q ∧ fl q ≤ cp q) ∧ (∀ v, v < 8 → ex v = x v + fbal sr ds fl (List.range n) v) ∧ (∃ p, PO n sr ds co cp p fl) ∧ (∀ q, q < n → fl q + posS ex ≤ R0) ∧ S = sz (fun q => co q * fl q) (List.range n)
theorem sz_0f {F : Nat → Int} {l : List Nat} (h : ∀ e ∈ l, F e = 0) : sz F l = 0 := (sz_congr h).trans (sz_zero l)
theorem NI_0 {n : Nat} {sr ds : Nat → Nat} {co cp x : Nat → Int} (hN : HN n sr ds co cp) : NI n sr ds co cp x (posS x) x (fun _ => 0) 0 := by
  refine ⟨fun q hq => ⟨Int.le_refl 0, (hN q hq).2.2.2.2⟩, fun v _ => ?_, ⟨fun _ => 0, fun q hq => ⟨fun _ => ?_, fun h => absurd h (Int.lt_irrefl 0)⟩⟩, fun q _ => by show (0 : Int) + posS x ≤ posS x; omega, ?_⟩
  · have : fbal sr ds (fun _ => 0) (List.range n) v = 0 := sz_0f fun e _ => by split <;> split <;> rfl
    omega
  · have := (hN q hq).2.2.1
    show 0 ≤ co q + 0 - 0
    omega
  · exact (sz_0f fun e _ => Int.mul_zero _).symm
def ab (z : Int) : Int := if z < 0 then -z else z
theorem ab_nn (z : Int) : 0 ≤ ab z := by unfold ab; split <;> omega
theorem ab_le (z : Int) : z ≤ ab z ∧ -z ≤ ab z := by unfold ab; split <;> omega
theorem NI_step {n : Nat} {sr ds : Nat → Nat} {co cp x : Nat → Int} {R0 : Int} {ex fl : Nat → Int} {S : Int} (hN : HN n sr ds co cp) (h : NI n sr ds co cp x R0 ex fl S) {s : Bs} {rk : Nat → Nat} (hF : FS n sr ds co cp ex fl s rk) {t : Nat} (ht : t < 8) (ht0 : ex t < 0) (hts : s.1 t < bfI) {amt : Int} (ha : amt = min (pAmt sr ds cp s fl 8 t (-(ex t))) (ex (pRoot sr ds s 8 t))) : 1 ≤ amt ∧ amt ≤ ex (pRoot sr ds s 8 t) ∧ amt ≤ -(ex t) ∧ posS (exN ex (pRoot sr ds s 8 t) t amt) = posS ex - amt ∧ NI n sr ds co cp x R0 (exN ex (pRoot sr ds s 8 t) t amt) (pUpd sr ds s amt 8 t fl) (S + s.1 t * amt) := by
  have hrk := (hF.2.2.2.2 t ht).1
  obtain ⟨r1, r2, r3, r4⟩ := pRoot_P hN hF 8 t ht hts (by omega)
  obtain ⟨m1, m2⟩ := pAmt_P (m := -(ex t)) hN hF 8 t ht
  have m3 := m2 (by omega)
  have hch := pUpd_ch hN hF (amt := amt) 8 t (-(ex t)) fl ht (by omega)
  obtain ⟨b1, b2⟩ := pUpd_bal hN hF (amt := amt) 8 t fl ht hts (by omega)
  have hpos := posS_N (ex := ex) (r := pRoot sr ds s 8 t) (t := t) (amt := amt) r1 (by omega) (by omega) (by omega)
  obtain ⟨n1, n2, ⟨p, n3⟩, n4, n5⟩ := h
  refine ⟨by omega, by omega, by omega, hpos, fun q hq => ?_, fun v hv => ?_, ?_, fun q hq => ?_, ?_⟩
  · have := n1 q hq
    rcases hch q with c | ⟨c, -, -, -, c2⟩ | ⟨c, -, -, -, c2⟩ <;> omega
  · rw [b1 v]
    have := n2 v hv
    show (ex v - (if v = pRoot sr ds s 8 t then amt else 0)) + (if v = t then amt else 0) = _
    have e1 : (if v = pRoot sr ds s 8 t then amt else 0) = (if pRoot sr ds s 8 t = v then amt else 0) := by
      by_cases q : v = pRoot sr ds s 8 t
      · rw [if_pos q, if_pos q.symm]
      · rw [if_neg q, if_neg (fun w => q w.symm)]
    have e2 : (if v = t then amt else 0) = (if t = v then amt else 0) := by
      by_cases q : v = t
      · rw [if_pos q, if_pos q.symm]
      · rw [if_neg q, if_neg (fun w => q w.symm)]
    rw [e1, e2]
    omega
  · have hK : ∀ v, v < 8 → p v ≤ s8 (fun v => ab (p v)) ∧ -(p v) ≤ s8 (fun v => ab (p v)) := fun v hv => by
      have h1 := s8_ge (F := fun v => ab (p v)) (fun v _ => ab_nn _) hv
      have h2 := ab_le (p v)
      have h3 : ab (p v) ≤ s8 (fun v => ab (p v)) := h1
      omega
    refine ⟨fun v => if s.1 v < bfI then s.1 v else p v + (s8 (fun v => ab (p v)) + 2000000000), fun q hq => ?_⟩
    obtain ⟨q1, q2, q3, q4, q5⟩ := hN q hq
    have k1 := hK (sr q) q1
    have k2 := hK (ds q) q2
    have z1 := hF.2.2.2.2 (sr q) q1
    have z2 := hF.2.2.2.2 (ds q) q2
    have tl0 : tlA sr ds (2 * q) = sr q := by unfold tlA; rw [if_pos (by omega)]; congr 1; omega
    have hd0 : hdA sr ds (2 * q) = ds q := by unfold hdA; rw [if_pos (by omega)]; congr 1; omega
    have wt0 : wtA co (2 * q) = co q := by unfold wtA; rw [if_pos (by omega)]; congr 1; omega
    have rm0 : rmA cp fl (2 * q) = cp q - fl q := by unfold rmA; rw [if_pos (by omega)]; congr 2 <;> omega
    have tl1 : tlA sr ds (2 * q + 1) = ds q := by unfold tlA; rw [if_neg (by omega)]; congr 1; omega
    have hd1 : hdA sr ds (2 * q + 1) = sr q := by unfold hdA; rw [if_neg (by omega)]; congr 1; omega
    have wt1 : wtA co (2 * q + 1) = -(co q) := by unfold wtA; rw [if_neg (by omega)]; congr 2; omega
    have rm1 : rmA cp fl (2 * q + 1) = fl q := by unfold rmA; rw [if_neg (by omega)]; congr 1; omega
    have f0 := hF.2.2.1 (2 * q) (by omega)
    have f1 := hF.2.2.1 (2 * q + 1) (by omega)
    rw [tl0, hd0, wt0, rm0] at f0
    rw [tl1, hd1, wt1, rm1] at f1
    have hp := n3 q hq
    (try dsimp only)
    unfold bfI at *
    rcases hch q with c | ⟨c, c1, -, -, c2⟩ | ⟨c, c1, -, -, c2⟩
    · rw [c]
      constructor
      · intro hlt
        have := hp.1 hlt
        by_cases a1 : s.1 (sr q) < 1000000000
        · have := f0 (by omega) a1
          rw [if_pos a1, if_pos (by omega)]
          omega
        · rw [if_neg a1]
          by_cases a2 : s.1 (ds q) < 1000000000
          · rw [if_pos a2]
            omega
          · rw [if_neg a2]
            omega
      · intro hlt
        have := hp.2 hlt
        by_cases a2 : s.1 (ds q) < 1000000000
        · have := f1 hlt a2
          rw [if_pos a2, if_pos (by omega)]
          omega
        · rw [if_neg a2]
          by_cases a1 : s.1 (sr q) < 1000000000
          · rw [if_pos a1]
            omega
          · rw [if_neg a1]
            omega
    · have b := hF.2.1 (ds q) (2 * q) q2 c1
      rw [tl0, wt0] at b
      unfold bfI at b
      rw [if_pos b.2.2.2.2.1, if_pos b.2.2.2.2.2.1]
      omega
    · have b := hF.2.1 (sr q) (2 * q + 1) q1 c1
      rw [tl1, wt1] at b
      unfold bfI at b
      rw [if_pos b.2.2.2.2.1, if_pos b.2.2.2.2.2.1]
      omega
  · have := n4 q hq
    rcases hch q with c | ⟨c, -, -, -, c2⟩ | ⟨c, -, -, -, c2⟩ <;> omega
  · rw [b2, n5]
/-! by the edges' names -/
theorem getD_mem {l : List Nat} {q : Nat} (h : q < l.length) : l.getD q 0 ∈ l := by
  rw [List.getD_eq_getElem?_getD, List.getElem?_eq_getElem h]
  exact List.getElem_mem h
theorem sz_ix (F : Nat → Int) : ∀ l : List Nat, sz F l = sz (fun q => F (l.getD q 0)) (List.range l.length) := by
  intro l
  have key : ∀ m, m ≤ l.length → sz F (l.take m) = sz (fun q => F (l.getD q 0)) (List.range m) := by
    intro m
    induction m with
    | zero => intro _; rfl
    | succ m ih =>
      intro hm
      rw [List.range_succ, sz_app, ← ih (by omega)]
      have e : l.take (m + 1) = l.take m ++ [l.getD m 0] := by
        rw [List.take_succ, List.getD_eq_getElem?_getD, List.getElem?_eq_getElem (by omega)]
        rfl
      rw [e, sz_app]
      rfl
  have := key l.length (Nat.le_refl _)
  rw [List.take_length] at this
  exact this
theorem ix_at {l : List Nat} (hn : l.Nodup) {q : Nat} (h : q < l.length) : l.idxOf (l.getD q 0) = q := by
  rw [List.getD_eq_getElem?_getD, List.getElem?_eq_getElem h]
  exact hn.idxOf_getElem q h
/-- a settled or stuck network by its names -/
def NC (l : List Nat) (Sr Ds : Nat → Nat) (Co C x : Nat → Int) (R0 : Int) (ex f : Nat → Int) (S : Int) : Prop := (∀ e ∈ l, 0 ≤ f e ∧ f e ≤ C e) ∧ (∀ v, v < 8 → ex v = x v + fbal Sr Ds f l v) ∧ (∃ p : Nat → Int, ∀ e ∈ l, (f e < C e → 0 ≤ Co e + p (Sr e) - p (Ds e)) ∧ (0 < f e → Co e + p (Sr e) - p (Ds e) ≤ 0)) ∧ (∀ e ∈ l, f e + posS ex ≤ R0) ∧ S = sz (fun e => Co e * f e) l
theorem NC_of {l : List Nat} (hn : l.Nodup) {Sr Ds : Nat → Nat} {Co C x : Nat → Int} {R0 : Int} {ex fl : Nat → Int} {S : Int} (h : NI l.length (fun q => Sr (l.getD q 0)) (fun q => Ds (l.getD q 0)) (fun q => Co (l.getD q 0)) (fun q => C (l.getD q 0)) x R0 ex fl S) : NC l Sr Ds Co C x R0 ex (fun e => fl (l.idxOf e)) S := by
  obtain ⟨n1, n2, ⟨p, n3⟩, n4, n5⟩ := h
  have hm : ∀ e ∈ l, l.idxOf e < l.length ∧ l.getD (l.idxOf e) 0 = e := fun e he => by
    have h1 := List.idxOf_lt_length_iff.mpr he
    refine ⟨h1, ?_⟩
    rw [List.getD_eq_getElem?_getD, List.getElem?_eq_getElem h1]
    exact List.getElem_idxOf h1
  refine ⟨fun e he => ?_, fun v hv => ?_, ⟨p, fun e he => ?_⟩, fun e he => ?_, ?_⟩
  · have t : 0 ≤ fl (l.idxOf e) ∧ fl (l.idxOf e) ≤ C (l.getD (l.idxOf e) 0) := n1 _ (hm e he).1
    rw [(hm e he).2] at t
    exact t
  · rw [n2 v hv]
    congr 1
    unfold fbal
    rw [sz_ix _ l]
    refine sz_congr fun q hq => ?_
    have := List.mem_range.mp hq
    (try dsimp only)
    rw [ix_at hn this]
  · have t : (fl (l.idxOf e) < C (l.getD (l.idxOf e) 0) → 0 ≤ Co (l.getD (l.idxOf e) 0) + p (Sr (l.getD (l.idxOf e) 0)) - p (Ds (l.getD (l.idxOf e) 0))) ∧ (0 < fl (l.idxOf e) → Co (l.getD (l.idxOf e) 0) + p (Sr (l.getD (l.idxOf e) 0)) - p (Ds (l.getD (l.idxOf e) 0)) ≤ 0) := n3 _ (hm e he).1
    rw [(hm e he).2] at t
    exact t
  · exact n4 _ (hm e he).1
  · rw [n5, sz_ix _ l]
    refine sz_congr fun q hq => ?_
    have := List.mem_range.mp hq
    (try dsimp only)
    rw [ix_at hn this]
theorem NC_le {l l' : List Nat} (hp : l.Perm l') {Sr Ds : Nat → Nat} {Co C C' x : Nat → Int} {R0 R1 : Int} {f g : Nat → Int} {S S' : Int} (hs : ∀ e ∈ l, Sr e < 8 ∧ Ds e < 8) (hC : ∀ e ∈ l, C' e ≤ C e ∨ R0 < C e) (h : NC l Sr Ds Co C x R0 (fun _ => 0) f S) (h' : NC l' Sr Ds Co C' x R1 (fun _ => 0) g S') : S ≤ S' := by
  obtain ⟨a1, a2, ⟨p, a3⟩, a4, a5⟩ := h
  obtain ⟨b1, b2, -, b4, b5⟩ := h'
  have e1 : S' = sz (fun e => Co e * g e) l := b5.trans (sz_perm hp).symm
  have e2 : ∀ v, fbal Sr Ds g l v = fbal Sr Ds g l' v := fun v => sz_perm hp
  rw [a5, e1]
  refine fl_opt Sr Ds Co f g p l hs (fun v hv => ?_) (fun e he => ⟨fun q => ?_, fun q => ?_⟩)
  · rw [e2 v]
    have h1 : (0 : Int) = x v + fbal Sr Ds f l v := a2 v hv
    have h2 : (0 : Int) = x v + fbal Sr Ds g l' v := b2 v hv
    omega
  · refine (a3 e he).1 ?_
    have h1 := b1 e (hp.mem_iff.mp he)
    have h2 := a4 e he
    have h3 : posS (fun _ => 0) = 0 := rfl
    rcases hC e he with h4 | h4 <;> omega
  · exact (a3 e he).2 (by have := b1 e (hp.mem_iff.mp he); omega)
/-- where it is stuck, nothing settles it -/
theorem NC_cut {l l' : List Nat} (hp : l.Perm l') {Sr Ds : Nat → Nat} {Co C C' x : Nat → Int} {R0 R1 : Int} {ex f g : Nat → Int} {S S' : Int} {s : Bs} (hs : ∀ e ∈ l, Sr e < 8 ∧ Ds e < 8) (hC : ∀ e ∈ l, C' e ≤ C e ∨ R0 < C e) (h : NC l Sr Ds Co C x R0 ex f S) (h' : NC l' Sr Ds Co C' x R1 (fun _ => 0) g S') (c1 : ∀ e ∈ l, f e < C e → s.1 (Sr e) < bfI → s.1 (Ds e) < bfI) (c2 : ∀ e ∈ l, 0 < f e → s.1 (Ds e) < bfI → s.1 (Sr e) < bfI) (c3 : ∀ v, v < 8 → s.1 v < bfI → 0 ≤ ex v) {k : Nat} (hk : k < 8) (hk1 : 0 < ex k) (hk2 : s.1 k < bfI) : False := by
  obtain ⟨a1, a2, -, a4, a5⟩ := h
  obtain ⟨b1, b2, -, b4, b5⟩ := h'
  have e2 : ∀ v, fbal Sr Ds g l v = fbal Sr Ds g l' v := fun v => sz_perm hp
  refine fl_cut Sr Ds x f g (fun v => decide (s.1 v < bfI)) l hs (fun v hv => ?_) (fun v hv hR => ?_) hk (decide_eq_true hk2) ?_ (fun e he => ⟨fun r1 r2 => ?_, fun r1 r2 => ?_⟩)
  · rw [e2 v]
    have : (0 : Int) = x v + fbal Sr Ds g l' v := b2 v hv
    omega
  · have := c3 v hv (of_decide_eq_true hR)
    have := a2 v hv
    omega
  · have := a2 k hk
    omega
  · have h1 := of_decide_eq_true r1
    have h2 := of_decide_eq_false r2
    have h3 : ¬ f e < C e := fun q => h2 (c1 e he q h1)
    have h4 := b1 e (hp.mem_iff.mp he)
    have h5 := a4 e he
    have h6 := posS_nn ex
    rcases hC e he with h7 | h7 <;> omega
  · have h1 := of_decide_eq_false r1
    have h2 := of_decide_eq_true r2
    have h3 : ¬ 0 < f e := fun q => h1 (c2 e he q h2)
    have h4 := b1 e (hp.mem_iff.mp he)
    omega
