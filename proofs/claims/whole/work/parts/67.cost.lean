/-! the model's cost -/
def pV (k : Nat) : Bool := decide (k = 65 ∨ k = 66 ∨ k = 67 ∨ k = 68 ∨ k = 69 ∨ k = 70 ∨ k = 71 ∨ k = 72)
section MC
variable {S : Nat} {op : Nat → Nat → Bool} {st fi al : Nat → Nat} {xv : Nat → Int} {fines : Bool} {big R0 : Int}
theorem m7 {N : Nat} {l : List Nat} (hS7 : S ≤ 7) (hn : l.length ≤ 70) (hl : LE S l) (hN : HN l.length (wS l) (wD l) (wO st fi l) (wC al big l)) (hcp : ∀ q, q < l.length → wC al big l q ≤ 1000000000) : ∀ (m k : Nat) (ex fl : Nat → Int) (Sm : Int) (σ : Sg), posS ex ≤ m → NI l.length (wS l) (wD l) (wO st fi l) (wC al big l) (xx xv S) R0 ex fl Sm → Sm + 7000 * posS ex ≤ 7000 * R0 → (∀ v, v < 8 → -1000000 ≤ ex v ∧ ex v ≤ 1000000) → ar σ 61 0 = nI S → MG l.length (wS l) (wD l) (wO st fi l) (wC al big l) fl σ → MX S ex σ → ∃ (b : Bool) (S' : Int) (ex' fl' : Nat → Int) (σ' : Sg), b_X7_costBy_7 (N + 200) (k + m + 2) (nI 1) σ = b_X7_costBy_24 (N + 200) (N + 200) (0 : Int32) (0 : Int32) σ' ∧ OW pV σ σ' ∧ NI l.length (wS l) (wD l) (wO st fi l) (wC al big l) (xx xv S) R0 ex' fl' S' ∧ S' ≤ 7000 * R0 ∧ MG l.length (wS l) (wD l) (wO st fi l) (wC al big l) fl' σ' ∧ MX S ex' σ' ∧ (b = true → ∀ v, v < 8 → ex' v ≤ 0) ∧ (b = false → ∃ s, STK l.length (wS l) (wD l) (wC al big l) ex' fl' s) := by
  intro m
  have hmain : ∀ (k : Nat) (ex fl : Nat → Int) (Sm : Int) (σ : Sg), NI l.length (wS l) (wD l) (wO st fi l) (wC al big l) (xx xv S) R0 ex fl Sm → Sm + 7000 * posS ex ≤ 7000 * R0 → (∀ v, v < 8 → -1000000 ≤ ex v ∧ ex v ≤ 1000000) → ar σ 61 0 = nI S → MG l.length (wS l) (wD l) (wO st fi l) (wC al big l) fl σ → MX S ex σ → (∃ (b : Bool) (S' : Int) (ex' fl' : Nat → Int) (σ' : Sg), b_X7_costBy_7 (N + 200) (k + 1 + 1) (nI 1) σ = b_X7_costBy_24 (N + 200) (N + 200) (0 : Int32) (0 : Int32) σ' ∧ OW pV σ σ' ∧ NI l.length (wS l) (wD l) (wO st fi l) (wC al big l) (xx xv S) R0 ex' fl' S' ∧ S' ≤ 7000 * R0 ∧ MG l.length (wS l) (wD l) (wO st fi l) (wC al big l) fl' σ' ∧ MX S ex' σ' ∧ (b = true → ∀ v, v < 8 → ex' v ≤ 0) ∧ (b = false → ∃ s, STK l.length (wS l) (wD l) (wC al big l) ex' fl' s)) ∨ ∃ (S' : Int) (ex' fl' : Nat → Int) (σ' : Sg), posS ex' + 1 ≤ posS ex ∧ b_X7_costBy_7 (N + 200) (k + 1 + 1) (nI 1) σ = b_X7_costBy_7 (N + 200) (k + 1) (nI 1) σ' ∧ OW pV σ σ' ∧ NI l.length (wS l) (wD l) (wO st fi l) (wC al big l) (xx xv S) R0 ex' fl' S' ∧ S' + 7000 * posS ex' ≤ 7000 * R0 ∧ (∀ v, v < 8 → -1000000 ≤ ex' v ∧ ex' v ≤ 1000000) ∧ ar σ' 61 0 = nI S ∧ MG l.length (wS l) (wD l) (wO st fi l) (wC al big l) fl' σ' ∧ MX S ex' σ' := by
    intro k ex fl Sm σ hNI hb hx h61 hG hX
    have hR : FB l.length (wC al big l) fl := fun q hq => ⟨(hNI.1 q hq).1, (hNI.1 q hq).2, hcp q hq⟩
    obtain ⟨p, hP⟩ := hNI.2.2.1
    have hout : ∀ v, v < 8 → ¬ PL S v → ex v = 0 := fun v hv hp => ni_out hl hNI hv hp
    have hp0 := posS_nn ex
    rcases m_sends (N := N) hS7 hn hN hR hP hx hout h61 hG hX with ⟨σ1, s, rk, e1, o1, hF, h0⟩ | ⟨σ1, s, rk, t, amt, e1, o1, hF, t1, t2, t3, ha, hG1, hX1⟩
    · left
      have ev : b_X7_costBy_7 (N + 200) (k + 1 + 1) (nI 1) σ = b_X7_costBy_24 (N + 200) (N + 200) (0 : Int32) (0 : Int32) σ1 := by
        show b_X7_costBy_7b (N + 200) (b_X7_costBy_7 (N + 200) (k + 1)) _ _ = _
        unfold b_X7_costBy_7b
        refine if_F n10 (bd2_k e1 ?_)
        show b_X7_costBy_7b (N + 200) (b_X7_costBy_7 (N + 200) k) _ _ = _
        unfold b_X7_costBy_7b
        exact if_T n00 rfl
      have oV : OW pV σ σ1 := o1.mo fun k hk => by unfold pV at hk; unfold pT; have := of_decide_eq_false hk; exact decide_eq_false (by omega)
      have hX1 : MX S ex σ1 := fun u hu => by rw [o1.2 70 (by decide)]; exact hX u hu
      by_cases q : ∃ u, u < 8 ∧ 0 < ex u
      · obtain ⟨u, hu, hu1⟩ := q
        exact ⟨false, Sm, ex, fl, σ1, ev, oV, hNI, by omega, hG.op o1 (by decide), hX1, fun w => (by cases w), fun _ => ⟨s, stk_of hN hF h0 hu hu1⟩⟩
      · exact ⟨true, Sm, ex, fl, σ1, ev, oV, hNI, by omega, hG.op o1 (by decide), hX1, fun _ v hv => Int.not_lt.mp fun w => q ⟨v, hv, w⟩, fun w => (by cases w)⟩
    · right
      obtain ⟨a1, a2, a3, a4, hNI'⟩ := NI_step hN hNI hF t1 t2 t3 ha
      have oV : OW pV σ σ1 := o1.mo fun k hk => by unfold pV at hk; unfold pU; have := of_decide_eq_false hk; exact decide_eq_false (by omega)
      refine ⟨_, _, _, σ1, by rw [a4]; omega, ?_, oV, hNI', ?_, exN_bnd hx a1 a2 a3, by rw [o1.2 61 (by decide)]; exact h61, hG1, hX1⟩
      · show b_X7_costBy_7b (N + 200) (b_X7_costBy_7 (N + 200) (k + 1)) _ _ = _
        unfold b_X7_costBy_7b
        exact if_F n10 (bd2_k e1 rfl)
      · have h1 : s.1 t ≤ 7000 := by
          rcases (hF.2.2.2.2 t t1).2.2 with h | h
          · omega
          · exact h
        have h2 : s.1 t * amt ≤ 7000 * amt := Int.mul_le_mul_of_nonneg_right h1 (by omega)
        rw [a4]
        omega
  induction m with
  | zero =>
    intro k ex fl Sm σ hp hNI hb hx h61 hG hX
    rcases hmain k ex fl Sm σ hNI hb hx h61 hG hX with h | ⟨S', ex', fl', σ', h1, _⟩
    · exact h
    · have := posS_nn ex'
      omega
  | succ m ih =>
    intro k ex fl Sm σ hp hNI hb hx h61 hG hX
    rcases hmain (k + m + 1) ex fl Sm σ hNI hb hx h61 hG hX with h | ⟨S', ex', fl', σ', h1, e, o, h3, h4, h5, h6, h7, h8⟩
    · exact h
    · obtain ⟨b, S2, ex2, fl2, σ2, e2, o2, r⟩ := ih k ex' fl' S' σ' (by omega) h3 h4 h5 h6 h7 h8
      exact ⟨b, S2, ex2, fl2, σ2, e.trans e2, o.tr o2, r⟩
theorem m24 {N : Nat} {ex : Nat → Int} (hS7 : S ≤ 7) (hx : ∀ v, v < 8 → -2000000000 ≤ ex v ∧ ex v ≤ 2000000000) {σ : Sg} (h61 : ar σ 61 0 = nI S) (hX : MX S ex σ) : ∀ m k v (c : Bool), v + m = 8 → ∃ c' : Bool, b_X7_costBy_24 N (k + m + 1) (zI (if c = true then 0 else -1)) (nI v) σ = b_X7_costBy_65 N N (zI (if c' = true then 0 else -1)) (0 : Int32) σ ∧ (c' = true ↔ c = true ∧ ∀ u, v ≤ u → u < 8 → PL S u → ex u = 0)
  | 0, k, v, c, h => by
    have e : v = 8 := by omega
    subst e
    refine ⟨c, ?_, ⟨fun w => ⟨w, fun u h1 h2 => by omega⟩, fun w => w.1⟩⟩
    show b_X7_costBy_24b N (b_X7_costBy_24 N k) _ _ _ = _
    unfold b_X7_costBy_24b
    exact if_T (of_eq_true (ile_T (Nat.le_refl 8) (by decide))) rfl
  | m + 1, k, v, c, h => by
    have hv : v < 8 := by omega
    have c0 : ¬ (8 : Int32) ≤ nI v := of_eq_false (ile_F hv (by decide))
    have b1 : inb (nI v) 8 = true := inb_nI hv (by decide)
    have hxv := hx v hv
    have ep := x_pl (N := N) hS7 hv h61
    show ∃ c', b_X7_costBy_24b N (b_X7_costBy_24 N (k + m + 1)) _ _ _ = _ ∧ _
    unfold b_X7_costBy_24b b_X7_costBy_54 b_X7_costBy_55
    by_cases hp : PL S v
    · rw [decide_eq_true hp] at ep
      by_cases q : ex v = 0
      · obtain ⟨c', e', i'⟩ := m24 (N := N) hS7 hx h61 hX m k (v + 1) c (by omega)
        refine ⟨c', if_F c0 <| bd2_k ep <| if_F n10 <| gd_k b1 ?_, i'.trans ⟨fun w => ⟨w.1, fun u h1 h2 h3 => ?_⟩, fun w => ⟨w.1, fun u h1 h2 h3 => w.2 u (by omega) h2 h3⟩⟩⟩
        · rw [nI_clamp (show v < 2 ^ 31 by omega), hX v hp, q]
          refine if_T z_0.symm (nm_k ?_)
          rw [nI_1]
          exact e'
        · by_cases w2 : u = v
          · rw [w2]
            exact q
          · exact w.2 u (by omega) h2 h3
      · obtain ⟨c', e', i'⟩ := m24 (N := N) hS7 hx h61 hX m k (v + 1) false (by omega)
        refine ⟨c', if_F c0 <| bd2_k ep <| if_F n10 <| gd_k b1 ?_, ⟨fun w => (by cases (i'.mp w).1), fun w => absurd (w.2 v (Nat.le_refl v) hv hp) q⟩⟩
        rw [nI_clamp (show v < 2 ^ 31 by omega), hX v hp]
        refine if_F (by rw [z_0]; exact zeq_F q (by omega) (by omega) (by decide) (by decide)) (nm_k ?_)
        rw [nI_1, z_m1]
        exact e'
    · rw [decide_eq_false hp] at ep
      obtain ⟨c', e', i'⟩ := m24 (N := N) hS7 hx h61 hX m k (v + 1) c (by omega)
      refine ⟨c', if_F c0 <| bd2_k ep <| if_T n00 <| nm_k ?_, i'.trans ⟨fun w => ⟨w.1, fun u h1 h2 h3 => ?_⟩, fun w => ⟨w.1, fun u h1 h2 h3 => w.2 u (by omega) h2 h3⟩⟩⟩
      · rw [nI_1]
        exact e'
      · by_cases w2 : u = v
        · rw [w2] at h3
          exact absurd h3 hp
        · exact w.2 u (by omega) h2 h3
theorem sz_rs (F : Nat → Int) (q : Nat) : sz F (List.range (q + 1)) = sz F (List.range q) + F q := by
  rw [List.range_succ, sz_app]
  show _ + (F q + 0) = _
  omega
theorem m65 {N n : Nat} {sr ds : Nat → Nat} {co cp fl : Nat → Int} (hn : n ≤ 70) {σ : Sg} (hG : MG n sr ds co cp fl σ) (hb : ∀ q, q ≤ n → 0 ≤ sz (fun q => co q * fl q) (List.range q) ∧ sz (fun q => co q * fl q) (List.range q) ≤ 1000000000) : ∀ m k q, q + m = n → b_X7_costBy_65 N (k + m + 1) (zI (sz (fun q => co q * fl q) (List.range q))) (nI q) σ = some (zI (sz (fun q => co q * fl q) (List.range n)), σ)
  | 0, k, q, h => by
    have e : q = n := by omega
    subst e
    show b_X7_costBy_65b N (b_X7_costBy_65 N k) _ _ _ = _
    unfold b_X7_costBy_65b
    rw [hG.1]
    exact if_T (of_eq_true (ile_T (Nat.le_refl _) (by omega))) rfl
  | m + 1, k, q, h => by
    have hq : q < n := by omega
    obtain ⟨g1, g2, g3, g4, g5⟩ := hG.2 q hq
    have h1 := hb q (by omega)
    have b1 : inb (nI q) 70 = true := inb_nI (by omega) (by decide)
    show b_X7_costBy_65b N (b_X7_costBy_65 N (k + m + 1)) _ _ _ = _
    unfold b_X7_costBy_65b
    rw [hG.1, nI_clamp (show q < 2 ^ 31 by omega), g3, g5]
    refine if_F (of_eq_false (ile_F hq (by omega))) <| if_F (by rw [z_m1]; exact zeq_F (by omega) (by omega) (by omega) (by decide) (by decide)) <| gd_k b1 <| gd_k b1 <| nm_k <| nm_k ?_
    rw [nI_1, zI_mul, zI_add, Int.mul_comm (fl q), ← sz_rs (fun q => co q * fl q) q]
    exact m65 hn hG hb m k (q + 1) (by omega)
theorem m65n {N k n : Nat} {σ : Sg} (h : rg σ 60 19 = nI n) (hn : n ≤ 70) : b_X7_costBy_65 N (k + 1) (zI (-1)) (0 : Int32) σ = some (zI (-1), σ) := by
  show b_X7_costBy_65b N (b_X7_costBy_65 N k) _ _ _ = _
  unfold b_X7_costBy_65b
  by_cases q : rg σ 60 19 ≤ (0 : Int32)
  · exact if_T q rfl
  · exact if_F q (if_T z_m1.symm rfl)
/-- the model's cost -/
theorem m_cost {N : Nat} (hN1 : 140000 ≤ N) (hS : S ≤ 7) (hop : ∀ k, k < S → op k k = false) (hx : ∀ k, k < S → -9999 ≤ xv k ∧ xv k ≤ 9999) (hst : ∀ k, k < 7 → st k ≤ 1000) (hfi : ∀ k, k < 7 → fi k ≤ 1000) (hal : ∀ k, k < S → al k ≤ 9999) {σ : Sg} (hB : MN S op st fi al xv σ) : ∃ b S1 σ', f_X7_costBy (N + 200) (nI fines.toNat) σ = some (zI (if b = true then S1 else -1), σ') ∧ OQ pV qN σ σ' ∧ ENDS (esM op fines S S).length (wS (esM op fines S S)) (wD (esM op fines S S)) (wO st fi (esM op fines S S)) (wC al 1000000000 (esM op fines S S)) (xx xv S) (posS (xx xv S)) b S1 ∧ 0 ≤ S1 ∧ S1 ≤ 1000000000 := by
  have hl := esM_in (op := op) (fines := fines) hS
  have hlen := esM_len (fines := fines) hS hop
  have hN : HN (esM op fines S S).length (wS (esM op fines S S)) (wD (esM op fines S S)) (wO st fi (esM op fines S S)) (wC al 1000000000 (esM op fines S S)) := w_HN (fun e he => by have := (hl e he).1; omega) (by decide) hst hfi
  obtain ⟨σ1, e1, o1, g1, x1⟩ := m_build (N := N) (fines := fines) hS hop hB
  have hB1 := hB.oq o1 (by decide)
  have hps := xx_pos hS hx
  obtain ⟨b, S1, ex, fl, σ2, e2, o2, hNI, hS1, hG2, hX2, hb1, hb0⟩ := m7 (N := N) (S := S) (xv := xv) (R0 := posS (xx xv S)) hS hlen hl hN (w_cp hl hal (by decide)) N 198 (xx xv S) (fun _ => 0) 0 σ1 (by omega) (NI_0 hN) (by omega) (fun v _ => by have := (xx_bnd hS hx v).1; omega) hB1.1 g1 x1
  rw [show 198 + N + 2 = N + 200 by omega] at e2
  have hE : ENDS (esM op fines S S).length (wS (esM op fines S S)) (wD (esM op fines S S)) (wO st fi (esM op fines S S)) (wC al 1000000000 (esM op fines S S)) (xx xv S) (posS (xx xv S)) b S1 := ⟨ex, fl, hNI, hb1, hb0⟩
  have hsum : S1 = sz (fun q => wO st fi (esM op fines S S) q * fl q) (List.range (esM op fines S S).length) := hNI.2.2.2.2
  have hterm : ∀ q, q < (esM op fines S S).length → 0 ≤ wO st fi (esM op fines S S) q * fl q := fun q hq => Int.mul_nonneg (hN q hq).2.2.1 (hNI.1 q hq).1
  have h0 : ∀ q, q ≤ (esM op fines S S).length → 0 ≤ sz (fun q => wO st fi (esM op fines S S) q * fl q) (List.range q) := fun q hq => sz_nn fun e he => hterm e (by have := List.mem_range.mp he; omega)
  have hmono : ∀ m q, q + m = (esM op fines S S).length → sz (fun q => wO st fi (esM op fines S S) q * fl q) (List.range q) ≤ S1 := by
    intro m
    induction m with
    | zero =>
      intro q hq
      rw [hsum, show q = (esM op fines S S).length by omega]
      exact Int.le_refl _
    | succ m ih =>
      intro q hq
      have h1 := ih (q + 1) (by omega)
      rw [sz_rs] at h1
      have h2 := hterm q (by omega)
      omega
  have hbig : 0 ≤ S1 ∧ S1 ≤ 1000000000 := by
    have := h0 _ (Nat.le_refl _)
    omega
  have hxe : ∀ v, v < 8 → -2000000000 ≤ ex v ∧ ex v ≤ 2000000000 := fun v hv => by
    have h1 := hNI.2.2.2.2
    have h3 := posS_ge ex hv
    have h4 := posS_ge (fun v => -(ex v)) hv
    have h5 : posS (fun v => -(ex v)) = posS ex := by
      have e0 : s8 ex = posS ex - posS (fun v => -(ex v)) := by
        unfold posS
        rw [← s8_sub]
        refine s8_congr fun u _ => ?_
        show ex u = max (ex u) 0 - max (-(ex u)) 0
        omega
      have := ni_sum hS hl hNI
      omega
    have h6 : posS ex ≤ 140000 := by
      by_cases hz : (esM op fines S S).length = 0
      · have h7 : posS ex = posS (xx xv S) := by
          unfold posS
          refine s8_congr fun u hu => ?_
          have h8 := hNI.2.1 u hu
          rw [hz] at h8
          have h9 : fbal (wS (esM op fines S S)) (wD (esM op fines S S)) fl (List.range 0) u = 0 := rfl
          rw [h9, Int.add_zero] at h8
          rw [h8]
        omega
      · have h7 := hNI.2.2.2.1 0 (by omega)
        have h8 := (hNI.1 0 (by omega)).1
        omega
    have h7 : -(ex v) ≤ posS (fun v => -(ex v)) := h4
    omega
  obtain ⟨c', e3, i3⟩ := m24 (N := N + 200) hS hxe (show ar σ2 61 0 = nI S by rw [o2.2 61 (by decide)]; exact hB1.1) hX2 8 (N + 191) 0 true rfl
  have e4 : f_X7_costBy (N + 200) (nI fines.toNat) σ = b_X7_costBy_65 (N + 200) (N + 200) (zI (if c' = true then 0 else -1)) (0 : Int32) σ2 := by
    rw [← e3]
    unfold f_X7_costBy
    refine bd_k e1 (e2.trans ?_)
    rw [if_pos rfl, ← z_0]
    rfl
  have oo : OQ pV qN σ σ2 := (o1.mo fun k hk => by unfold pV at hk; unfold pR; have := of_decide_eq_false hk; exact decide_eq_false (by omega)).tr (o2.oq qN)
  refine ⟨b, S1, σ2, ?_, oo, hE, hbig⟩
  rw [e4]
  cases b with
  | true =>
    have hc : c' = true := i3.mpr ⟨rfl, fun u _ hu _ => ni_zero hS hl hNI (hb1 rfl) hu⟩
    have e5 := m65 (N := N + 200) hlen hG2 (fun q hq => ⟨h0 q hq, by have := hmono _ q (Nat.add_sub_cancel' hq); omega⟩) (esM op fines S S).length (N + 199 - (esM op fines S S).length) 0 (by omega)
    rw [show N + 199 - (esM op fines S S).length + (esM op fines S S).length + 1 = N + 200 by omega, ← hsum] at e5
    rw [hc]
    exact e5
  | false =>
    obtain ⟨s, -, -, k, hk, hk1, -⟩ := hb0 rfl
    have hc : c' = false := bF fun w => by
      have hp : PL S k := Classical.byContradiction fun q => by have := ni_out hl hNI hk q; omega
      have := (i3.mp w).2 k (Nat.zero_le k) hk hp
      omega
    rw [hc]
    exact m65n hG2.1 hlen
end MC
