/-! cost, gate, fresh, need -/
theorem so_sm {σ σ' : Sg} (h : OQ pSo qJ σ σ') : Sm σ σ' := h.sm (fun k hk => by unfold cA at hk; unfold pSo; have := of_decide_eq_true hk; exact decide_eq_false (by omega)) (fun k j hk => by unfold cR at hk; unfold qJ; have := of_decide_eq_true hk; exact decide_eq_false (by omega))
theorem mv_sm {σ σ' : Sg} (h : OQ pV qN σ σ') : Sm σ σ' := h.sm (fun k hk => by unfold cA at hk; unfold pV; have := of_decide_eq_true hk; exact decide_eq_false (by omega)) (fun k j hk => by unfold cR at hk; unfold qN; have := of_decide_eq_true hk; exact decide_eq_false (by omega))
def xvA (A : Ab) (i : Nat) : Int := (ii A i : Int) - (oo A i : Int)
theorem xvA_b {A : Ab} (hA : AOK A) : ∀ k, k < aS A → -9999 ≤ xvA A k ∧ xvA A k ≤ 9999 := fun k hk => by
  obtain ⟨-, -, h1, h2, -⟩ := hA.2.1 k hk
  unfold xvA
  omega
theorem opB_self {A : Ab} (hA : AOK A) : ∀ k, k < aS A → opB A k k = false := fun k hk => by
  have h := (hA.2.1 k hk).2.2.2.2.2
  unfold opB
  rw [h]
  rfl
theorem ste_b (A : Ab) (hA : AOK A) : ∀ k, k < 7 → ste A k ≤ 1000 := fun k _ => Nat.le_trans (ste_le hA k) (by decide)
theorem fin_b (A : Ab) (hA : AOK A) : ∀ k, k < 7 → fin A k ≤ 1000 := fun k _ => fin_le hA k
theorem alw_b (A : Ab) (hA : AOK A) : ∀ k, k < aS A → alw A k ≤ 9999 := fun k hk => alw_le hA hk
theorem bit_s {n j : Nat} (hn : n < 128) (hj : j < 7) : (nI n >>> (nI j &&& 31)) &&& 1 = nI (n.testBit j).toNat := by
  rw [l_31, l_1, bit_1 n hn j hj]
  cases n.testBit j
  · rfl
  · rfl
theorem bn_of {A : Ab} (hA : AOK A) {σ : Sg} (h7 : rg σ 7 0 = nI (aS A)) (hB : ∀ i, i < aS A → BR A σ i) : BN (aS A) (opB A) (ste A) (fin A) (alw A) (xvA A) σ := by
  have hS7 := hA.1.1
  refine ⟨h7, fun i hi => ?_⟩
  obtain ⟨b1, b2, b3, b4, b5⟩ := hB i hi
  refine ⟨fun j hj => ?_, b2, ?_, b4, b5⟩
  · have hs : opS A i < 128 := p2_le hS7 (setB_lt _ _)
    rw [b1, bit_s hs (show j < 7 by omega), opB_bit hj]
  · rw [b3, nI_z, nI_z, zI_sub]
    rfl
theorem mn_of {A : Ab} (hA : AOK A) {σ : Sg} (hM : RM 61 A σ) (hB : ∀ i, i < aS A → MR A σ i) : MN (aS A) (opB A) (ste A) (fin A) (alw A) (xvA A) σ := by
  have hS7 := hA.1.1
  refine ⟨hM.1.1, fun i hi => ?_⟩
  obtain ⟨b1, b2, b3, b4⟩ := hB i hi
  refine ⟨?_, b1, b2, b3, fun j hj => ?_⟩
  · obtain ⟨-, -, h1, h2, -⟩ := hM.2.1 i hi
    rw [h1, h2, nI_z, nI_z, zI_sub]
    rfl
  · rw [b4 j (by omega)]
    unfold opx
    rw [decide_eq_true hj, Bool.true_and]
section AG
variable {S : Nat} {op : Nat → Nat → Bool} {st fi al : Nat → Nat} {xv : Nat → Int} {fines : Bool}
theorem agree (hS : S ≤ 7) (hx : ∀ k, k < S → -9999 ≤ xv k ∧ xv k ≤ 9999) {b b' : Bool} {S1 S2 : Int} (h1 : ENDS (esC op fines S S).length (wS (esC op fines S S)) (wD (esC op fines S S)) (wO st fi (esC op fines S S)) (wC al 1000000 (esC op fines S S)) (xx xv S) (posS (xx xv S)) b S1) (h2 : ENDS (esM op fines S S).length (wS (esM op fines S S)) (wD (esM op fines S S)) (wO st fi (esM op fines S S)) (wC al 1000000000 (esM op fines S S)) (xx xv S) (posS (xx xv S)) b' S2) : b = b' ∧ (b = true → S1 = S2) ∧ (fines = true → b = true) := by
  have hp := xx_pos hS hx
  have hl := esC_in (op := op) (fines := fines) hS S (Nat.le_refl S)
  obtain ⟨e1, e2⟩ := ends_eq hS (es_perm op fines S S) (esC_nodup hS S) hl (by omega) h1 h2
  refine ⟨e1, e2, fun hf => ?_⟩
  subst hf
  exact end_f hS hl (fun i hi => esC_fin hS S hi) (by omega) h1
end AG
theorem s_T {N : Nat} : f_X1_solve N (1 : Int32) = f_X1_solve N (nI true.toNat) := by rw [l_1]; rfl
theorem s_F {N : Nat} : f_X1_solve N (0 : Int32) = f_X1_solve N (nI false.toNat) := by rw [l_0]; rfl
theorem k_T {N : Nat} : f_X7_costBy N (1 : Int32) = f_X7_costBy N (nI true.toNat) := by rw [l_1]; rfl
theorem k_F {N : Nat} : f_X7_costBy N (0 : Int32) = f_X7_costBy N (nI false.toNat) := by rw [l_0]; rfl
theorem z_5 {b : Bool} {S1 : Int} (h : 0 ≤ S1 ∧ S1 ≤ 1000000000) {σ : Sg} : (if zI (if b = true then S1 else -1) = (-1 : Int32) then some ((-5 : Int32), σ) else some (zI (if b = true then S1 else -1), σ)) = some (zI (if b = true then S1 else -5), σ) := by
  cases b with
  | true =>
    rw [if_pos rfl, if_pos rfl]
    exact if_neg (by rw [z_m1]; exact zeq_F (by omega) (by omega) (by omega) (by decide) (by decide))
  | false =>
    rw [if_neg (show ¬ false = true from Bool.false_ne_true), if_neg (show ¬ false = true from Bool.false_ne_true)]
    exact (if_pos z_m1.symm).trans (by rw [z_m5])
theorem op_cost {N : Nat} {σ : Sg} {A : Ab} (hN1 : 140000 ≤ N) (hN2 : N < 900000) (hI : Inv A σ) (x : Int32) : Ok2 (f_X6_cost (N + 200) x) (f_X7_cost (N + 200) x) σ := by
  obtain ⟨⟨hS7, hD99, hT100, hW5, hZ7⟩, hAS, hAT, hAZ, hAW, hAW0⟩ := id hI.1
  obtain ⟨-, hC, hM, hK, r, hr, r1, r2, r3⟩ := id hI
  obtain ⟨⟨c1, c2, c3, c4, c5⟩, cS, cT, cZ, cW⟩ := id hC
  obtain ⟨⟨m1, m2, m3, m4, m5, m6⟩, mS, mT, mZ, mW⟩ := id hM
  unfold f_X6_cost f_X7_cost
  rcases i_cases x with h | ⟨n, hn, rfl⟩
  · exact ⟨-1, σ, σ, A, if_T h rfl, bd2_k (by rw [l_0]; exact x_in_lo h (by decide) _) (if_T n00 rfl), hI⟩
  have g0 : ¬ nI n < 0 := by rw [l_0]; exact of_eq_false (ilt_F (Nat.zero_le n) hn)
  by_cases h1 : n ≤ 1
  · have c1' : nI n ≤ (1 : Int32) := by rw [l_1]; exact of_eq_true (ile_T h1 (by decide))
    have key : ∀ fines : Bool, ∃ (r : Int32) (σ1 σ2 : Sg), (∀ σ', f_X1_load (N + 200) σ = some σ' → b_X6_cost_36 (N + 200) (nI fines.toNat) σ' = some (r, σ1)) ∧ (∃ τ, f_X7_looksForAll (N + 200) σ1 = some τ ∧ b_X7_cost_26 (N + 200) (nI fines.toNat) τ = some (r, σ2)) ∧ Inv A σ2 := fun fines => by
      obtain ⟨σa, ea, sa, ra, ba⟩ := x_load1 (N := N) hI.1 hC
      obtain ⟨b, S1, σb, eb, ob, hE⟩ := c_solve (N := N) (fines := fines) hN1 hN2 hS7 (opB_self hI.1) (xvA_b hI.1) (ste_b A hI.1) (fin_b A hI.1) (alw_b A hI.1) (bn_of hI.1 ra ba)
      have hIb := (hI.sm sa).sm (so_sm ob)
      obtain ⟨σc, ec, sc, bc⟩ := x_lfa (N := N) hI.1 hIb.2.2.1
      have hIc := hIb.sm sc
      obtain ⟨b', S2, σd, ed, od, hE', hS2⟩ := m_cost (N := N) (fines := fines) hN1 hS7 (opB_self hI.1) (xvA_b hI.1) (ste_b A hI.1) (fin_b A hI.1) (alw_b A hI.1) (mn_of hI.1 hIc.2.2.1 bc)
      obtain ⟨q1, q2, -⟩ := agree hS7 (xvA_b hI.1) hE hE'
      subst q1
      have q3 : (if b = true then S1 else -5) = (if b = true then S2 else -5) := by
        cases b with
        | true => exact q2 rfl
        | false => rfl
      refine ⟨zI (if b = true then S1 else -5), σb, σd, fun σ' hσ' => ?_, ⟨σc, ec, ?_⟩, hIc.sm (mv_sm od)⟩
      · have := hσ'.symm.trans ea
        cases this
        unfold b_X6_cost_36
        exact bd2_k eb rfl
      · unfold b_X7_cost_26
        refine bd2_k ed ?_
        rw [z_5 hS2, q3]
    by_cases h2 : n = 1
    · subst h2
      obtain ⟨r, σ1, σ2, k1, ⟨τ, k2, k3⟩, k4⟩ := key true
      obtain ⟨σa, ea, -⟩ := x_load1 (N := N) hI.1 hC
      refine ⟨r, σ1, σ2, A, if_F g0 (if_T c1' (bd_k ea (if_T (by decide) ?_))), bd2_k (by rw [l_0, l_1]; exact x_in_T (by decide) (by decide) (by decide)) (if_F n10 (bd_k k2 (if_T (by decide) ?_))), k4⟩
      · rw [l_1]
        exact k1 σa ea
      · rw [l_1]
        exact k3
    · have h3 : n = 0 := by omega
      subst h3
      obtain ⟨r, σ1, σ2, k1, ⟨τ, k2, k3⟩, k4⟩ := key false
      obtain ⟨σa, ea, -⟩ := x_load1 (N := N) hI.1 hC
      refine ⟨r, σ1, σ2, A, if_F g0 (if_T c1' (bd_k ea (if_F (by decide) ?_))), bd2_k (by rw [l_0, l_1]; exact x_in_T (by decide) (by decide) (by decide)) (if_F n10 (bd_k k2 (if_F (by decide) ?_))), k4⟩
      · rw [l_0]
        exact k1 σa ea
      · rw [l_0]
        exact k3
  · have c1' : ¬ nI n ≤ (1 : Int32) := by rw [l_1]; exact of_eq_false (ile_F (by omega) hn)
    exact ⟨-1, σ, σ, A, if_F g0 (if_F c1' rfl), bd2_k (by rw [l_0, l_1]; exact x_in_F (Or.inr (by omega)) hn (by decide) (by decide)) (if_T n00 rfl), hI⟩
/-- another network asked behind the first -/
theorem ch_al {S a : Nat} {op : Nat → Nat → Bool} {st fi al : Nat → Nat} {xv : Nat → Int} {σ : Sg} (hB : BN S op st fi al xv σ) : BN S op st fi (fun i => if i = a then 9999 else al i) xv (sar σ 43 a (9999 : Int32)) := by
  refine ⟨hB.1, fun i hi => ?_⟩
  obtain ⟨b1, b2, b3, b4, b5⟩ := hB.2 i hi
  rw [ar_sar_ne (show 42 ≠ 43 by decide), ar_sar_ne (show 44 ≠ 43 by decide), ar_sar_ne (show 45 ≠ 43 by decide), ar_sar_ne (show 46 ≠ 43 by decide), ar_sar]
  (try dsimp only)
  refine ⟨b1, ?_, b3, b4, b5⟩
  by_cases q : i = a
  · rw [if_pos ⟨rfl, q⟩, if_pos q]
    exact l_9999
  · rw [if_neg (fun w => q w.2), if_neg q]
    exact b2
theorem mh_al {S a : Nat} {op : Nat → Nat → Bool} {st fi al : Nat → Nat} {xv : Nat → Int} {σ : Sg} (hB : MN S op st fi al xv σ) : MN S op st fi (fun i => if i = a then 9999 else al i) xv (sar σ 73 a (9999 : Int32)) := by
  unfold MN
  rw [ar_sar_ne (show 61 ≠ 73 by decide), ar_sar_ne (show 74 ≠ 73 by decide), ar_sar_ne (show 75 ≠ 73 by decide), ar_sar_ne (show 76 ≠ 73 by decide)]
  refine ⟨hB.1, fun i hi => ?_⟩
  obtain ⟨b1, b2, b3, b4, b5⟩ := hB.2 i hi
  refine ⟨b1, ?_, b3, b4, b5⟩
  (try dsimp only)
  rw [ar_sar]
  by_cases q : i = a
  · rw [if_pos ⟨rfl, q⟩, if_pos q]
    exact l_9999
  · rw [if_neg (fun w => q w.2), if_neg q]
    exact b2
def opc (op : Nat → Nat → Bool) (a b : Nat) (w : Bool) (i j : Nat) : Bool := if i = a ∧ j = b then w else op i j
theorem ch_op {S a b n n' : Nat} {w : Bool} {op : Nat → Nat → Bool} {st fi al : Nat → Nat} {xv : Nat → Int} {σ : Sg} (hS : S ≤ 7) (hB : BN S op st fi al xv σ) (hn' : n' < 128) (hbit : ∀ j, j < S → n'.testBit j = opc op a b w a j) : BN S (opc op a b w) st fi al xv (sar σ 42 a (nI n')) := by
  refine ⟨hB.1, fun i hi => ?_⟩
  obtain ⟨b1, b2, b3, b4, b5⟩ := hB.2 i hi
  rw [ar_sar_ne (show 43 ≠ 42 by decide), ar_sar_ne (show 44 ≠ 42 by decide), ar_sar_ne (show 45 ≠ 42 by decide), ar_sar_ne (show 46 ≠ 42 by decide), ar_sar]
  refine ⟨fun j hj => ?_, b2, b3, b4, b5⟩
  by_cases q : i = a
  · rw [if_pos ⟨rfl, q⟩, bit_s hn' (by omega), hbit j hj, q]
  · rw [if_neg (fun z => q z.2), b1 j hj]
    unfold opc
    rw [if_neg (fun z => q z.1)]
theorem mh_op {S a b : Nat} {w : Bool} {op : Nat → Nat → Bool} {st fi al : Nat → Nat} {xv : Nat → Int} {σ : Sg} (hS : S ≤ 7) (hb : b < S) (hB : MN S op st fi al xv σ) : MN S (opc op a b w) st fi al xv (sar σ 76 (7 * a + b) (nI w.toNat)) := by
  unfold MN
  rw [ar_sar_ne (show 61 ≠ 76 by decide), ar_sar_ne (show 73 ≠ 76 by decide), ar_sar_ne (show 74 ≠ 76 by decide), ar_sar_ne (show 75 ≠ 76 by decide)]
  refine ⟨hB.1, fun i hi => ?_⟩
  obtain ⟨b1, b2, b3, b4, b5⟩ := hB.2 i hi
  refine ⟨b1, b2, b3, b4, fun j hj => ?_⟩
  rw [ar_sar]
  unfold opc
  by_cases q : i = a ∧ j = b
  · rw [if_pos ⟨rfl, by rw [q.1, q.2]⟩, if_pos q]
  · rw [if_neg (fun z => q (by omega)), if_neg q, b5 j hj]
theorem opc_self {S a b : Nat} {w : Bool} {op : Nat → Nat → Bool} (h : ∀ k, k < S → op k k = false) (hab : a ≠ b) : ∀ k, k < S → opc op a b w k k = false := fun k hk => by
  unfold opc
  rw [if_neg (fun z => hab (z.1.symm.trans z.2))]
  exact h k hk
theorem op_gate {N : Nat} {σ : Sg} {A : Ab} (hN1 : 140000 ≤ N) (hN2 : N < 900000) (hI : Inv A σ) (x : Int32) : Ok2 (f_X6_gate (N + 200) x) (f_X7_gate (N + 200) x) σ := by
  obtain ⟨⟨hS7, hD99, hT100, hW5, hZ7⟩, hAS, hAT, hAZ, hAW, hAW0⟩ := id hI.1
  obtain ⟨-, hC, hM, hK, r, hr, r1, r2, r3⟩ := id hI
  obtain ⟨⟨c1, c2, c3, c4, c5⟩, cS, cT, cZ, cW⟩ := id hC
  obtain ⟨⟨m1, m2, m3, m4, m5, m6⟩, mS, mT, mZ, mW⟩ := id hM
  unfold f_X6_gate f_X7_gate
  rcases i_cases x with h | ⟨a, ha, rfl⟩
  · exact ⟨-1, σ, σ, A, bd2_k (x_has_lo h) (if_T n00 rfl), bd2_k (x_isS_lo h) (if_T n00 rfl), hI⟩
  by_cases haS : aS A ≤ a
  · exact ⟨-1, σ, σ, A, bd2_k (x_has_F c1 hS7 haS ha) (if_T n00 rfl), bd2_k (x_isS_F m1 hS7 haS ha) (if_T n00 rfl), hI⟩
  have haS' : a < aS A := by omega
  have b7 : inb (nI a) 7 = true := inb_nI (by omega) (by decide)
  have hal' : ∀ k, k < aS A → (if k = a then 9999 else alw A k) ≤ 9999 := fun k hk => by
    split
    · exact Nat.le_refl _
    · exact alw_b A hI.1 k hk
  obtain ⟨σa, ea, sa, ra, ba⟩ := x_load1 (N := N) hI.1 hC
  have hBa := bn_of hI.1 ra ba
  obtain ⟨b, S1, σb, eb, ob, hE⟩ := c_solve (N := N) (fines := true) hN1 hN2 hS7 (opB_self hI.1) (xvA_b hI.1) (ste_b A hI.1) (fin_b A hI.1) (alw_b A hI.1) hBa
  have hBb := ch_al (a := a) (hBa.oq ob (by decide))
  obtain ⟨b2, S2, σc, ec, oc, hE2⟩ := c_solve (N := N) (fines := true) hN1 hN2 hS7 (opB_self hI.1) (xvA_b hI.1) (ste_b A hI.1) (fin_b A hI.1) hal' hBb
  have hIc := (hI.sm ((sa.tr (so_sm ob)).sar (k := 43) a (9999 : Int32) (by decide))).sm (so_sm oc)
  obtain ⟨τa, fa, ta, na⟩ := x_lfa (N := N) hI.1 hIc.2.2.1
  have hId := hIc.sm ta
  have hMa := mn_of hI.1 hId.2.2.1 na
  obtain ⟨b', S1', τb, fb, pb, hE', -⟩ := m_cost (N := N) (fines := true) hN1 hS7 (opB_self hI.1) (xvA_b hI.1) (ste_b A hI.1) (fin_b A hI.1) (alw_b A hI.1) hMa
  have hMb := mh_al (a := a) (hMa.oq pb (by decide))
  obtain ⟨b2', S2', τc, fc, pc, hE2', -⟩ := m_cost (N := N) (fines := true) hN1 hS7 (opB_self hI.1) (xvA_b hI.1) (ste_b A hI.1) (fin_b A hI.1) hal' hMb
  obtain ⟨q1, q2, q3⟩ := agree hS7 (xvA_b hI.1) hE hE'
  obtain ⟨r1, r2, r3⟩ := agree hS7 (xvA_b hI.1) hE2 hE2'
  have t1 := q3 rfl
  have t2 := r3 rfl
  subst t1 t2
  subst q1 r1
  rw [if_pos rfl] at eb ec fb fc
  have w1 := q2 rfl
  have w2 := r2 rfl
  refine ⟨zI S1 - zI S2, σc, τc, A, bd2_k (x_has_T c1 hS7 haS') (if_F n10 (bd_k ea ?_)), bd2_k (x_isS_T hIc.2.2.1.1.1 hS7 haS') (if_F n10 (bd_k fa ?_)), hId.sm ((mv_sm pb).sar (k := 73) a (9999 : Int32) (by decide) |>.tr (mv_sm pc))⟩
  · rw [s_T, nI_clamp (show a < 2 ^ 31 by omega)]
    exact bd2_k eb (gd_k b7 (nm_k (bd2_k ec rfl)))
  · rw [k_T, nI_clamp (show a < 2 ^ 31 by omega), w1, w2]
    exact bd2_k fb (gd_k b7 (nm_k (bd2_k fc rfl)))
theorem x_ref2 {N : Nat} {σ : Sg} {x y : Int32} : f_X6_refusalOfTwo N x y σ = bd2 (f_X4_hasBoth N x y σ) fun v6 σ6 => if v6 = 0 then (some ((-1 : Int32), σ6)) else (if x = y then (some ((-2 : Int32), σ6)) else (some ((0 : Int32), σ6))) := rfl
/-- what fresh and need have in common -/
theorem op_two {N : Nat} {σ : Sg} {A : Ab} (hN1 : 140000 ≤ N) (hN2 : N < 900000) (hI : Inv A σ) {a b : Nat} (ha : a < aS A) (hb : b < aS A) (hab : a ≠ b) (w : Bool) (n' : Nat) (hn' : n' < 128) (hbit : ∀ j, j < aS A → n'.testBit j = opc (opB A) a b w a j) : ∃ S1 S2 σa σb σc τc, f_X1_load (N + 200) σ = some σa ∧ f_X1_solve (N + 200) (1 : Int32) σa = some (zI S1, σb) ∧ ar σb 42 a = nI (opS A a) ∧ f_X1_solve (N + 200) (1 : Int32) (sar σb 42 a (nI n')) = some (zI S2, σc) ∧ Inv A σc ∧ f_X7_changes (N + 200) (nI a) (nI b) (nI w.toNat) σc = some (zI S1 - zI S2, τc) ∧ Inv A τc := by
  obtain ⟨⟨hS7, hD99, hT100, hW5, hZ7⟩, hAS, hAT, hAZ, hAW, hAW0⟩ := id hI.1
  obtain ⟨-, hC, hM, hK, r, hr, r1, r2, r3⟩ := id hI
  obtain ⟨⟨c1, c2, c3, c4, c5⟩, cS, cT, cZ, cW⟩ := id hC
  obtain ⟨⟨m1, m2, m3, m4, m5, m6⟩, mS, mT, mZ, mW⟩ := id hM
  obtain ⟨σa, ea, sa, ra, ba⟩ := x_load1 (N := N) hI.1 hC
  have hBa := bn_of hI.1 ra ba
  obtain ⟨b, S1, σb, eb, ob, hE⟩ := c_solve (N := N) (fines := true) hN1 hN2 hS7 (opB_self hI.1) (xvA_b hI.1) (ste_b A hI.1) (fin_b A hI.1) (alw_b A hI.1) hBa
  have hBb := ch_op (w := w) (n := 0) hS7 (hBa.oq ob (by decide)) hn' hbit
  obtain ⟨b2, S2, σc, ec, oc, hE2⟩ := c_solve (N := N) (fines := true) hN1 hN2 hS7 (opc_self (opB_self hI.1) hab) (xvA_b hI.1) (ste_b A hI.1) (fin_b A hI.1) (alw_b A hI.1) hBb
  have hIc := (hI.sm ((sa.tr (so_sm ob)).sar (k := 42) a (nI n') (by decide))).sm (so_sm oc)
  obtain ⟨τa, fa, ta, na⟩ := x_lfa (N := N) hI.1 hIc.2.2.1
  have hId := hIc.sm ta
  have hMa := mn_of hI.1 hId.2.2.1 na
  obtain ⟨b', S1', τb, fb, pb, hE', -⟩ := m_cost (N := N) (fines := true) hN1 hS7 (opB_self hI.1) (xvA_b hI.1) (ste_b A hI.1) (fin_b A hI.1) (alw_b A hI.1) hMa
  have hMb := mh_op (a := a) (w := w) hS7 hb (hMa.oq pb (by decide))
  obtain ⟨b2', S2', τc, fc, pc, hE2', -⟩ := m_cost (N := N) (fines := true) hN1 hS7 (opc_self (opB_self hI.1) hab) (xvA_b hI.1) (ste_b A hI.1) (fin_b A hI.1) (alw_b A hI.1) hMb
  obtain ⟨q1, q2, q3⟩ := agree hS7 (xvA_b hI.1) hE hE'
  obtain ⟨r1, r2, r3⟩ := agree hS7 (xvA_b hI.1) hE2 hE2'
  have t1 := q3 rfl
  have t2 := r3 rfl
  subst t1 t2
  subst q1 r1
  rw [if_pos rfl] at eb ec fb fc
  have w1 := q2 rfl
  have w2 := r2 rfl
  refine ⟨S1, S2, σa, σb, σc, τc, ea, by rw [s_T]; exact eb, by rw [ob.2 42 (by decide)]; exact (ba a ha).1, by rw [s_T]; exact ec, hIc, ?_, hId.sm ((mv_sm pb).sar (k := 76) _ _ (by decide) |>.tr (mv_sm pc))⟩
  unfold f_X7_changes
  have hv : vp_nar .boolean (nI w.toNat) = nI w.toNat := by
    cases w
    · exact nar_0
    · exact nar_1
  rw [k_T, l_7, pk_mul, nI_add, nI_clamp (by omega), hv, w1, w2]
  exact bd_k fa (bd2_k fb (gd_k (inb_nI (by omega) (by decide)) (nm_k (bd2_k fc rfl))))
theorem op_fresh {N : Nat} {σ : Sg} {A : Ab} (hN1 : 140000 ≤ N) (hN2 : N < 900000) (hI : Inv A σ) (x y : Int32) : Ok2 (f_X6_fresh (N + 200) x y) (f_X7_fresh (N + 200) x y) σ := by
  obtain ⟨⟨hS7, hD99, hT100, hW5, hZ7⟩, hAS, hAT, hAZ, hAW, hAW0⟩ := id hI.1
  obtain ⟨-, hC, hM, hK, r, hr, r1, r2, r3⟩ := id hI
  obtain ⟨⟨c1, c2, c3, c4, c5⟩, cS, cT, cZ, cW⟩ := id hC
  obtain ⟨⟨m1, m2, m3, m4, m5, m6⟩, mS, mT, mZ, mW⟩ := id hM
  unfold f_X6_fresh f_X7_fresh
  have lo1 : ¬ (0 : Int32) ≤ (-1 : Int32) := by decide
  have lo2 : ¬ (0 : Int32) ≤ (-2 : Int32) := by decide
  rcases i_cases x with h | ⟨a, ha, rfl⟩
  · exact ⟨-1, σ, σ, A, bd2_k (x_ref2.trans (bd2_k (x_both_F1 (x_has_lo h)) (if_T n00 rfl))) (if_F lo1 rfl), bd2_k (x_isS_lo h) (if_T n00 rfl), hI⟩
  by_cases haS : aS A ≤ a
  · exact ⟨-1, σ, σ, A, bd2_k (x_ref2.trans (bd2_k (x_both_F1 (x_has_F c1 hS7 haS ha)) (if_T n00 rfl))) (if_F lo1 rfl), bd2_k (x_isS_F m1 hS7 haS ha) (if_T n00 rfl), hI⟩
  have haS' : a < aS A := by omega
  rcases i_cases y with h | ⟨b, hb, rfl⟩
  · exact ⟨-1, σ, σ, A, bd2_k (x_ref2.trans (bd2_k (x_both_F2 (x_has_T c1 hS7 haS') (x_has_lo h)) (if_T n00 rfl))) (if_F lo1 rfl), bd2_k (x_isS_T m1 hS7 haS') (if_F n10 (bd2_k (x_isS_lo h) (if_T n00 rfl))), hI⟩
  by_cases hbS : aS A ≤ b
  · exact ⟨-1, σ, σ, A, bd2_k (x_ref2.trans (bd2_k (x_both_F2 (x_has_T c1 hS7 haS') (x_has_F c1 hS7 hbS hb)) (if_T n00 rfl))) (if_F lo1 rfl), bd2_k (x_isS_T m1 hS7 haS') (if_F n10 (bd2_k (x_isS_F m1 hS7 hbS hb) (if_T n00 rfl))), hI⟩
  have hbS' : b < aS A := by omega
  by_cases hab : a = b
  · subst hab
    exact ⟨-2, σ, σ, A, bd2_k (x_ref2.trans (bd2_k (x_both_T c1 hS7 haS' hbS') (if_F n10 (if_T rfl rfl)))) (if_F lo2 rfl), bd2_k (x_isS_T m1 hS7 haS') (if_F n10 (bd2_k (x_isS_T m1 hS7 hbS') (if_F n10 (if_T rfl rfl)))), hI⟩
  have hne : ¬ nI a = nI b := of_eq_false (ieq_F hab ha hb)
  have hn : opS A a < 128 := p2_le hS7 (setB_lt _ _)
  have hn' : opS A a ||| 2 ^ b < 128 := Nat.or_lt_two_pow (n := 7) hn (Nat.pow_lt_pow_right (by decide) (by omega))
  obtain ⟨S1, S2, σa, σb, σc, τc, e1, e2, e3, e4, hI2, e5, hI3⟩ := op_two hN1 hN2 hI haS' hbS' hab true (opS A a ||| 2 ^ b) hn' (fun j hj => by
    rw [bit_4 _ hn b (by omega) j (by omega), opB_bit hj]
    unfold opc
    by_cases q : j = b
    · rw [decide_eq_true q, Bool.or_true, if_pos ⟨rfl, q⟩]
    · rw [decide_eq_false q, Bool.or_false, if_neg (fun z => q z.2)])
  have b7 : inb (nI a) 7 = true := inb_nI (by omega) (by decide)
  refine ⟨zI S1 - zI S2, σc, τc, A, bd2_k (x_ref2.trans (bd2_k (x_both_T c1 hS7 haS' hbS') (if_F n10 (if_F hne rfl)))) (if_T (by decide) (bd_k e1 (bd2_k e2 (gd_k b7 (gd_k b7 (nm_k ?_)))))), bd2_k (x_isS_T hI2.2.2.1.1.1 hS7 haS') (if_F n10 (bd2_k (x_isS_T hI2.2.2.1.1.1 hS7 hbS') (if_F n10 (if_F hne (bd2_k e5 rfl))))), hI3⟩
  have e6 : sar σb 42 (nI a).toNatClampNeg (ar σb 42 (nI a).toNatClampNeg ||| (1 : Int32) <<< (nI b &&& 31)) = sar σb 42 a (nI (opS A a ||| 2 ^ b)) := by
    rw [nI_clamp (show a < 2 ^ 31 by omega), e3, l_1, l_31, bit_2 _ hn b (by omega)]
  rw [e6]
  exact bd2_k e4 rfl
theorem op_need {N : Nat} {σ : Sg} {A : Ab} (hN1 : 140000 ≤ N) (hN2 : N < 900000) (hI : Inv A σ) (x y : Int32) : Ok2 (f_X6_need (N + 200) x y) (f_X7_need (N + 200) x y) σ := by
  obtain ⟨⟨hS7, hD99, hT100, hW5, hZ7⟩, hAS, hAT, hAZ, hAW, hAW0⟩ := id hI.1
  obtain ⟨-, hC, hM, hK, r, hr, r1, r2, r3⟩ := id hI
  obtain ⟨⟨c1, c2, c3, c4, c5⟩, cS, cT, cZ, cW⟩ := id hC
  obtain ⟨⟨m1, m2, m3, m4, m5, m6⟩, mS, mT, mZ, mW⟩ := id hM
  unfold f_X6_need f_X7_need
  have lo1 : ¬ (0 : Int32) ≤ (-1 : Int32) := by decide
  have lo2 : ¬ (0 : Int32) ≤ (-2 : Int32) := by decide
  rcases i_cases x with h | ⟨a, ha, rfl⟩
  · exact ⟨-1, σ, σ, A, bd2_k (x_ref2.trans (bd2_k (x_both_F1 (x_has_lo h)) (if_T n00 rfl))) (if_F lo1 rfl), bd2_k (x_isS_lo h) (if_T n00 rfl), hI⟩
  by_cases haS : aS A ≤ a
  · exact ⟨-1, σ, σ, A, bd2_k (x_ref2.trans (bd2_k (x_both_F1 (x_has_F c1 hS7 haS ha)) (if_T n00 rfl))) (if_F lo1 rfl), bd2_k (x_isS_F m1 hS7 haS ha) (if_T n00 rfl), hI⟩
  have haS' : a < aS A := by omega
  rcases i_cases y with h | ⟨b, hb, rfl⟩
  · exact ⟨-1, σ, σ, A, bd2_k (x_ref2.trans (bd2_k (x_both_F2 (x_has_T c1 hS7 haS') (x_has_lo h)) (if_T n00 rfl))) (if_F lo1 rfl), bd2_k (x_isS_T m1 hS7 haS') (if_F n10 (bd2_k (x_isS_lo h) (if_T n00 rfl))), hI⟩
  by_cases hbS : aS A ≤ b
  · exact ⟨-1, σ, σ, A, bd2_k (x_ref2.trans (bd2_k (x_both_F2 (x_has_T c1 hS7 haS') (x_has_F c1 hS7 hbS hb)) (if_T n00 rfl))) (if_F lo1 rfl), bd2_k (x_isS_T m1 hS7 haS') (if_F n10 (bd2_k (x_isS_F m1 hS7 hbS hb) (if_T n00 rfl))), hI⟩
  have hbS' : b < aS A := by omega
  by_cases hab : a = b
  · subst hab
    exact ⟨-2, σ, σ, A, bd2_k (x_ref2.trans (bd2_k (x_both_T c1 hS7 haS' hbS') (if_F n10 (if_T rfl rfl)))) (if_F lo2 rfl), bd2_k (x_isS_T m1 hS7 haS') (if_F n10 (bd2_k (x_isS_T m1 hS7 hbS') (if_F n10 (if_T rfl rfl)))), hI⟩
  have hne : ¬ nI a = nI b := of_eq_false (ieq_F hab ha hb)
  have hn : opS A a < 128 := p2_le hS7 (setB_lt _ _)
  have hn' : opS A a &&& (127 ^^^ 2 ^ b) < 128 := Nat.lt_of_le_of_lt Nat.and_le_left hn
  obtain ⟨S1, S2, σa, σb, σc, τc, e1, e2, e3, e4, hI2, e5, hI3⟩ := op_two hN1 hN2 hI haS' hbS' hab false (opS A a &&& (127 ^^^ 2 ^ b)) hn' (fun j hj => by
    rw [bit_5 _ hn b (by omega) j (by omega), opB_bit hj]
    unfold opc
    by_cases q : j = b
    · rw [decide_eq_true q, Bool.not_true, Bool.and_false, if_pos ⟨rfl, q⟩]
    · rw [decide_eq_false q, Bool.not_false, Bool.and_true, if_neg (fun z => q z.2)])
  have b7 : inb (nI a) 7 = true := inb_nI (by omega) (by decide)
  have hz : zI S2 - zI S1 = -(zI S1 - zI S2) := by
    rw [zI_sub, zI_sub, zI_neg]
    congr 1
    omega
  refine ⟨zI S2 - zI S1, σc, τc, A, bd2_k (x_ref2.trans (bd2_k (x_both_T c1 hS7 haS' hbS') (if_F n10 (if_F hne rfl)))) (if_T (by decide) (bd_k e1 (bd2_k e2 (gd_k b7 (gd_k b7 (nm_k ?_)))))), bd2_k (x_isS_T hI2.2.2.1.1.1 hS7 haS') (if_F n10 (bd2_k (x_isS_T hI2.2.2.1.1.1 hS7 hbS') (if_F n10 (if_F hne (bd2_k e5 (by rw [hz])))))), hI3⟩
  have e6 : sar σb 42 (nI a).toNatClampNeg (ar σb 42 (nI a).toNatClampNeg &&& ((1 : Int32) <<< (nI b &&& 31) ^^^ (-1 : Int32))) = sar σb 42 a (nI (opS A a &&& (127 ^^^ 2 ^ b))) := by
    rw [nI_clamp (show a < 2 ^ 31 by omega), e3, l_1, l_31, bit_3 _ hn b (by omega)]
  rw [e6]
  exact bd2_k e4 rfl
