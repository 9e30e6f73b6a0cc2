/-! the class's rounds to the end -/
section SV
variable {n : Nat} {sr ds : Nat → Nat} {co cp fl ex : Nat → Int} {s : Bs} {rk : Nat → Nat}
/-- nobody with too little is reached -/
def STK (n : Nat) (sr ds : Nat → Nat) (cp ex fl : Nat → Int) (s : Bs) : Prop := (∀ a, a < 2 * n → 0 < rmA cp fl a → s.1 (tlA sr ds a) < bfI → s.1 (hdA sr ds a) < bfI) ∧ (∀ v, v < 8 → s.1 v < bfI → 0 ≤ ex v) ∧ ∃ k, k < 8 ∧ 0 < ex k ∧ s.1 k < bfI
def ENDS (n : Nat) (sr ds : Nat → Nat) (co cp x : Nat → Int) (R0 : Int) (b : Bool) (S : Int) : Prop := ∃ ex fl, NI n sr ds co cp x R0 ex fl S ∧ (b = true → ∀ v, v < 8 → ex v ≤ 0) ∧ (b = false → ∃ s, STK n sr ds cp ex fl s)
theorem stk_of (hN : HN n sr ds co cp) (hF : FS n sr ds co cp ex fl s rk) (h : ∀ u, u < 8 → ex u < 0 → bfI ≤ s.1 u) {k : Nat} (hk : k < 8) (hk1 : 0 < ex k) : STK n sr ds cp ex fl s := by
  refine ⟨fun a ha hr ht => ?_, fun v hv hs => ?_, k, hk, hk1, ?_⟩
  · have h1 := hF.2.2.1 a ha hr ht
    obtain ⟨t1, t2, t3, t4⟩ := tlA_lt hN ha
    have h2 := (hF.2.2.2.2 _ t1).2.2
    unfold bfI at *
    omega
  · have : ¬ ex v < 0 := fun q => by have := h v hv q; omega
    omega
  · have := hF.2.2.2.1 k hk hk1
    unfold bfI
    omega
theorem rm_bnd {x : Nat → Int} {R0 S : Int} (h : NI n sr ds co cp x R0 ex fl S) (hcp : ∀ q, q < n → cp q ≤ 1000000000) : ∀ a, a < 2 * n → 0 ≤ rmA cp fl a ∧ rmA cp fl a ≤ 2000000000 := fun a ha => by
  have h1 := h.1 (a / 2) (by omega)
  have h2 := hcp (a / 2) (by omega)
  unfold rmA
  split <;> omega
theorem exN_bnd {r t : Nat} {amt : Int} (h : ∀ v, v < 8 → -1000000 ≤ ex v ∧ ex v ≤ 1000000) (h0 : 1 ≤ amt) (h1 : amt ≤ ex r) (h2 : amt ≤ -(ex t)) : ∀ v, v < 8 → -1000000 ≤ exN ex r t amt v ∧ exN ex r t amt v ≤ 1000000 := fun v hv => by
  have := h v hv
  unfold exN
  by_cases q1 : v = r
  · subst q1
    by_cases q2 : v = t
    · subst q2
      omega
    · rw [if_pos rfl, if_neg q2]
      omega
  · rw [if_neg q1]
    by_cases q2 : v = t
    · subst q2
      rw [if_pos rfl]
      omega
    · rw [if_neg q2]
      omega
def pX (k : Nat) : Bool := decide (k = 49 ∨ k = 51 ∨ k = 52 ∨ k = 53)
theorem cs_solve9 {N : Nat} {x : Nat → Int} {R0 : Int} (hn : n ≤ 70) (hN : HN n sr ds co cp) (hcp : ∀ q, q < n → cp q ≤ 1000000000) : ∀ (m k r : Nat) (ex fl : Nat → Int) (S : Int) (σ : Sg), posS ex ≤ m → r + m < 900000 → NI n sr ds co cp x R0 ex fl S → (∀ v, v < 8 → -1000000 ≤ ex v ∧ ex v ≤ 1000000) → CG n sr ds co cp fl σ → (∀ u, u < 8 → ar σ 51 u = zI (ex u)) → ∃ b S' σ', b_X1_solve_9 (N + 200) (k + m + 1) (zI S) (nI r) σ = some (zI (if b = true then S' else -5), σ') ∧ OW pX σ σ' ∧ ENDS n sr ds co cp x R0 b S' := by
  intro m
  have hmain : ∀ (k r : Nat) (ex fl : Nat → Int) (S : Int) (σ : Sg) (k9 : Int32 → Int32 → Sg → Option (Int32 × Sg)), r < 900000 → NI n sr ds co cp x R0 ex fl S → (∀ v, v < 8 → -1000000 ≤ ex v ∧ ex v ≤ 1000000) → CG n sr ds co cp fl σ → (∀ u, u < 8 → ar σ 51 u = zI (ex u)) → (∃ b S' σ', b_X1_solve_9b (N + 200) k9 (zI S) (nI r) σ = some (zI (if b = true then S' else -5), σ') ∧ OW pX σ σ' ∧ ENDS n sr ds co cp x R0 b S') ∨ ∃ ex' fl' S' σ', 0 < posS ex ∧ posS ex' + 1 ≤ posS ex ∧ b_X1_solve_9b (N + 200) k9 (zI S) (nI r) σ = k9 (zI S') (nI (r + 1)) σ' ∧ OW pX σ σ' ∧ NI n sr ds co cp x R0 ex' fl' S' ∧ (∀ v, v < 8 → -1000000 ≤ ex' v ∧ ex' v ≤ 1000000) ∧ CG n sr ds co cp fl' σ' ∧ (∀ u, u < 8 → ar σ' 51 u = zI (ex' u)) := by
    intro k r ex fl S σ k9 hr hNI hx hG h51
    have hx' : ∀ v, v < 8 → -2000000000 ≤ ex v ∧ ex v ≤ 2000000000 := fun v hv => by have := hx v hv; omega
    have hR := rm_bnd hNI hcp
    have c0 : ¬ (1000000 : Int32) ≤ nI r := by rw [l_1000000]; exact of_eq_false (ile_F (by omega) (by omega))
    obtain ⟨b, e1, hb0, hb1⟩ := c_uns (N := N + 200) hx' h51 8 (N + 191) 0 rfl
    have e1' : f_X1_isUnsettled (N + 200) σ = some (nI b.toNat, σ) := e1
    unfold b_X1_solve_9b
    cases b with
    | false =>
      exact Or.inl ⟨true, S, σ, if_F c0 <| bd2_k e1' <| if_T n00 rfl, OW.rf pX σ, ex, fl, hNI, fun _ v hv => hb0 rfl v (Nat.zero_le v) hv, fun w => by cases w⟩
    | true =>
      obtain ⟨u0, hu0, hu1⟩ := hb1 rfl
      have hp0 := posS_ge ex hu0
      obtain ⟨p, hP⟩ := hNI.2.2.1
      obtain ⟨σ1, s, rk, e2, o1, hS, hF⟩ := cs_search (N := N) hn hN hR hP hx' hG h51
      have h51' : ∀ u, u < 8 → ar σ1 51 u = zI (ex u) := fun u hu => by rw [o1.2 51 (by decide)]; exact h51 u hu
      have hs2 : ∀ v, v < 8 → -7000 ≤ s.1 v ∧ s.1 v ≤ bfI := fun v hv => by
        have := (hF.2.2.2.2 v hv).2
        unfold bfI at *
        omega
      obtain ⟨b', e3, hn0, hn1⟩ := c_near (N := N + 200) hx' hs2 h51' hS 8 (N + 191) 0 none bfI rfl (fun _ => ⟨rfl, fun u hu => absurd hu (Nat.not_lt_zero u)⟩) (fun t w => by cases w)
      have e3' : f_X1_nearest (N + 200) σ1 = some (zI (pz b'), σ1) := by
        unfold f_X1_nearest
        rw [z_m1, z_I]
        exact e3
      have ox : OW pX σ σ1 := o1.mo fun k hk => by unfold pX at hk; unfold pS; have := of_decide_eq_false hk; exact decide_eq_false (by omega)
      cases b' with
      | none =>
        refine Or.inl ⟨false, S, σ1, ?_, ox, ex, fl, hNI, (fun w => by cases w), fun _ => ⟨s, stk_of hN hF (hn0 rfl) hu0 hu1⟩⟩
        refine if_F c0 <| bd2_k e1' <| if_F n10 <| bd_k e2 <| bd2_k e3' <| if_F (by rw [z_0]; exact zle_F (by decide) (by decide) (by decide)) ?_
        rw [z_m5]
        rfl
      | some t =>
        obtain ⟨t1, t2, t3⟩ := hn1 t rfl
        obtain ⟨a1, a2, a3, a4, hNI'⟩ := NI_step hN hNI hF t1 t2 t3 rfl
        obtain ⟨σ2, e4, o2, hG2, hE2⟩ := cs_send (N := N) hn hN hR hF (hG.op o1) hS hx' h51' t1 t2 t3 rfl
        refine Or.inr ⟨_, _, _, σ2, by omega, ?_, ?_, ox.tr (o2.mo fun k hk => by unfold pX at hk; unfold pE; have := of_decide_eq_false hk; exact decide_eq_false (by omega)), hNI', exN_bnd hx a1 a2 a3, hG2, hE2⟩
        · rw [a4]
          omega
        · refine if_F c0 <| bd2_k e1' <| if_F n10 <| bd_k e2 <| bd2_k e3' ?_
          rw [show zI (pz (some t)) = nI t from (nI_z t).symm]
          refine if_T (by rw [l_0]; exact of_eq_true (ile_T (Nat.zero_le t) (by omega))) <| gd_k (inb_nI t1 (by decide)) <| bd2_k e4 <| nm_k <| nm_k ?_
          rw [nI_clamp (by omega), (hS t t1).1, zI_mul, zI_add, nI_1]
  induction m with
  | zero =>
    intro k r ex fl S σ hp hr hNI hx hG h51
    rcases hmain k r ex fl S σ (b_X1_solve_9 (N + 200) k) (by omega) hNI hx hG h51 with h | ⟨_, _, _, _, h, _⟩
    · exact h
    · omega
  | succ m ih =>
    intro k r ex fl S σ hp hr hNI hx hG h51
    rcases hmain k r ex fl S σ (b_X1_solve_9 (N + 200) (k + m + 1)) (by omega) hNI hx hG h51 with h | ⟨ex', fl', S', σ', h1, h2, e, o, h3, h4, h5, h6⟩
    · exact h
    · obtain ⟨b, S'', σ'', e', o', hE⟩ := ih k (r + 1) ex' fl' S' σ' (by omega) (by omega) h3 h4 h5 h6
      exact ⟨b, S'', σ'', e.trans e', o.tr o', hE⟩
end SV
