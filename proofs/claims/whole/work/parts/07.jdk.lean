/-! the JDK's members over constant texts; a call of a nest mate -/
abbrev mJ0_coder_7d493 : Mi := (RJ0, cJ0_coder_7d493, 1, (some .byte))
abbrev mJ0_isLatin1_aae02 : Mi := (RJ0, cJ0_isLatin1_aae02, 1, (some .boolean))
abbrev mJ0_checkIndex_df160 : Mi := (RJ0, cJ0_checkIndex_df160, 2, none)
abbrev mJ1_charAt_3b067 : Mi := (RJ1, cJ1_charAt_3b067, 2, (some .char))
abbrev mJ3_checkIndex_8e157 : Mi := (RJ3, cJ3_checkIndex_8e157, 3, (some .int))
theorem cj_coder : am_cv RJ0 335 yJ0_coder_7d493 mJ0_coder_7d493 0 := ⟨⟨wm_r8 _ (List.mem_of_getElem? (i := 13) rfl), wm_r8 _ (List.mem_of_getElem? (i := 10) rfl), wm_r8 _ (List.mem_of_getElem? (i := 16) rfl), by decide, by decide +kernel, by decide +kernel, by decide +kernel⟩, wm_r8 _ (List.mem_of_getElem? (i := 14) rfl), wm_r8 _ (List.mem_of_getElem? (i := 15) rfl)⟩
theorem cj_isL : am_cv RJ0 492 yJ0_isLatin1_aae02 mJ0_isLatin1_aae02 0 := ⟨⟨wm_r8 _ (List.mem_of_getElem? (i := 23) rfl), wm_r8 _ (List.mem_of_getElem? (i := 10) rfl), wm_r9 _ (List.mem_of_getElem? (i := 2) rfl), by decide, by decide +kernel, by decide +kernel, by decide +kernel⟩, wm_r9 _ (List.mem_of_getElem? (i := 0) rfl), wm_r9 _ (List.mem_of_getElem? (i := 1) rfl)⟩
theorem cj_lchr : am_cs RJ0 495 yJ1_charAt_3b067 mJ1_charAt_3b067 2 := ⟨⟨wm_r9 _ (List.mem_of_getElem? (i := 3) rfl), wm_r9 _ (List.mem_of_getElem? (i := 5) rfl), wm_r9 _ (List.mem_of_getElem? (i := 6) rfl), by decide, by decide +kernel, by decide +kernel, by decide +kernel⟩, wm_r9 _ (List.mem_of_getElem? (i := 4) rfl)⟩
theorem cj_ci : am_cs RJ1 9 yJ0_checkIndex_df160 mJ0_checkIndex_df160 2 := ⟨⟨wm_r9 _ (List.mem_of_getElem? (i := 7) rfl), wm_r8 _ (List.mem_of_getElem? (i := 10) rfl), wm_r9 _ (List.mem_of_getElem? (i := 9) rfl), by decide, by decide +kernel, by decide +kernel, by decide +kernel⟩, wm_r9 _ (List.mem_of_getElem? (i := 8) rfl)⟩
theorem cj_pci : am_cs RJ0 1059 yJ3_checkIndex_8e157 mJ3_checkIndex_8e157 3 := ⟨⟨wm_r9 _ (List.mem_of_getElem? (i := 11) rfl), wm_r9 _ (List.mem_of_getElem? (i := 13) rfl), wm_r9 _ (List.mem_of_getElem? (i := 14) rfl), by decide, by decide +kernel, by decide +kernel, by decide +kernel⟩, wm_r9 _ (List.mem_of_getElem? (i := 12) rfl)⟩
section AMJ
variable {G : Cx} {M : Mi} {d : Nat} {K : Kx} {Qe : State → Prop} {pc : Nat} {ls : List (Option Value)} {st : List Value} {σ : Sg}
theorem am_gets_cs (X : am_X G M d K) {idx : Nat} (hd : decode M.2.1 pc = .ok (.getstatic idx, 3)) (hw : Cond.fieldLink M.1 idx "java/lang/String" "COMPACT_STRINGS" "Z" ∈ wsL_law) (kk : am_W G K Qe (pc + 3) ls (.int 1 :: st) σ) : am_W G K Qe pc ls st σ := by
  obtain ⟨p, e, R, s, m, sa, below, meth, c, cells, slots⟩ := K
  intro H locs lsC hS hP hL
  exact va_gets X.1 X.2.1 X.2.2.2.2.2.2.2.1.2.2.2.2.2.2.2.2.2.1 hS X.2.2.2.1 (X.2.2.2.2.1 _ hw) (fun _ h9 => h9) hd (kk H locs lsC hS hP hL)
theorem am_gets_q (X : am_X G M d K) {idx : Nat} (hd : decode M.2.1 pc = .ok (.getstatic idx, 3)) (hw : Cond.fieldLink M.1 idx "jdk/internal/util/Preconditions" "SIOOBE_FORMATTER" "Ljava/util/function/BiFunction;" ∈ wsL_law) (kk : ∀ v : Value, v.category = 1 → am_W G K Qe (pc + 3) ls (v :: st) σ) : am_W G K Qe pc ls st σ := by
  obtain ⟨p, e, R, s, m, sa, below, meth, c, cells, slots⟩ := K
  intro H locs lsC hS hP hL
  rcases X.2.2.2.2.2.2.2.1.2.2.2.2.2.2.2.2.2.2 with h | h
  · exact va_gets X.1 X.2.1 h hS X.2.2.2.1 (X.2.2.2.2.1 _ hw) (fun _ h9 => h9) hd (kk .null rfl H locs lsC hS hP hL)
  · exact va_gets X.1 X.2.1 h hS X.2.2.2.1 (X.2.2.2.2.1 _ hw) (fun _ h9 => h9) hd (kk (.ref 95) rfl H locs lsC hS hP hL)
theorem am_str_value (X : am_X G M d K) {idx i : Nat} (hi : i < 8) (hd : decode M.2.1 pc = .ok (.getfield idx, 3)) (hw : Cond.fieldLink M.1 idx "java/lang/String" "value" "[B" ∈ wsL_law) (kk : am_W G K Qe (pc + 3) ls (.ref (120 + i) :: st) σ) : am_W G K Qe pc ls (.ref (100 + i) :: st) σ := by
  obtain ⟨p, e, R, s, m, sa, below, meth, c, cells, slots⟩ := K
  intro H locs lsC hS hP hL
  exact vk_getf X.1 X.2.1 (X.2.2.2.2.2.2.2.1.2.2.2.2.2.1.1 i hi).2.2.1 hS X.2.2.2.1 (X.2.2.2.2.1 _ hw) (fun _ h9 => h9) hd (kk H locs lsC hS hP hL)
theorem am_str_coder (X : am_X G M d K) {idx i : Nat} (hi : i < 8) (hd : decode M.2.1 pc = .ok (.getfield idx, 3)) (hw : Cond.fieldLink M.1 idx "java/lang/String" "coder" "B" ∈ wsL_law) (kk : am_W G K Qe (pc + 3) ls (.int 0 :: st) σ) : am_W G K Qe pc ls (.ref (100 + i) :: st) σ := by
  obtain ⟨p, e, R, s, m, sa, below, meth, c, cells, slots⟩ := K
  intro H locs lsC hS hP hL
  exact vk_getf X.1 X.2.1 (X.2.2.2.2.2.2.2.1.2.2.2.2.2.1.1 i hi).2.1 hS X.2.2.2.1 (X.2.2.2.2.1 _ hw) (fun _ h9 => h9) hd (kk H locs lsC hS hP hL)
theorem am_str_alen (X : am_X G M d K) {i : Nat} (hi : i < 8) (hd : decode M.2.1 pc = .ok (.arraylength, 1)) (kk : am_W G K Qe (pc + 1) ls (.int (nI (am_len.getD i 0)) :: st) σ) : am_W G K Qe pc ls (.ref (120 + i) :: st) σ := by
  obtain ⟨p, e, R, s, m, sa, below, meth, c, cells, slots⟩ := K
  intro H locs lsC hS hP hL
  exact va_tlen X.1 X.2.1 (X.2.2.2.2.2.2.2.1.2.2.2.2.2.1.1 i hi).2.2.2 hS rfl hd (kk H locs lsC hS hP hL)
theorem am_str_bald (X : am_X G M d K) {i : Nat} {j : Int32} (hi : i < 8) (hd : decode M.2.1 pc = .ok (.baload, 1)) (hj : inb j (am_len.getD i 0) = true) (kk : am_W G K Qe (pc + 1) ls (.int ((am_byt.getD i []).getD j.toNatClampNeg 0) :: st) σ) : am_W G K Qe pc ls (.int j :: .ref (120 + i) :: st) σ := by
  obtain ⟨p, e, R, s, m, sa, below, meth, c, cells, slots⟩ := K
  intro H locs lsC hS hP hL
  exact va_tb X.1 X.2.1 (X.2.2.2.2.2.2.2.1.2.2.2.2.2.1.1 i hi).2.2.2 hS (inb_in hj) rfl hd (kk H locs lsC hS hP hL)
theorem am_callS (X : am_X G M d K) {d' idx i n : Nat} {y : MethodName} {M' : Mi} {As rest : List Value} {Q' : Option Value → Sg → Prop} (hi : i < 8) (hd : decode M.2.1 pc = .ok (.invokevirtual idx, 3)) (hw : am_cv M.1 idx y M' n) (hC : am_Ct G d' y M' (.ref (100 + i) :: As) σ Q') (hdd : d' + 1 ≤ d) (hqy : y.cls = "java/lang/String") (hn : As.length = n) (hst : As.reverse ++ .ref (100 + i) :: rest = st) (hsm : (rest.map fun v => v.category).sum ≤ 8) (kk : ∀ (r : Option Value) (σ' : Sg), Q' r σ' → am_W G K Qe (pc + 3) ls (r.toList ++ rest) σ') : am_W G K Qe pc ls st σ := by
  obtain ⟨p, e, R, s, m, sa, below, meth, c, cells, slots⟩ := K
  intro H locs lsC hS hP hL
  obtain ⟨hx, hb, hml, hown, hts, -, -, hF, hz, ⟨hr1, hr2, hr3, hr4⟩, hG⟩ := X
  obtain ⟨⟨w1, w2, w3, w4, w5⟩, w6, w7⟩ := hw
  obtain ⟨cell, g1, g2, g3⟩ := vk_recv hF.2.2.2.2.2.1 hi hS
  subst hst
  have hls : lsC.size = M.2.2.1 := by
    obtain ⟨l, h1, -⟩ := hL
    rw [← hml]
    exact h1.1
  refine am_after (restC := rest.map (am_v G)) (va_runV (As := As.map (am_v G)) (rest := rest.map (am_v G)) (b := am_ad G (100 + i)) (C := y.cls) (cc := M.2.1) (nL := M.2.2.1) (own := M.1) ⟨hx, hb, hml, hown, hts⟩ hC
    ⟨callB_of n hts (am_good w3) rfl rfl rfl (hts _ w2) (hts _ w1) w5 ⟨by show d' + 1 ≤ R.frames; omega, by show 8 + (M'.2.2.1 + 11) + 40 * d' ≤ R.locals; omega⟩, hts _ w6, hts _ w7⟩
    ⟨am_blind, ⟨cell, g1, g2, by rw [hqy]; exact g3⟩, fun U hU hW => ⟨rfl, by rw [hU]; exact hP, by rw [hU]; exact (hF.warm hW).kept (fun a h1 h2 => hS.2.1 a h1 h2), by rw [hU]; exact Nat.le_trans hz hS.1⟩⟩ rfl (by simp [hn]) hls (by simp [am_v]) ?_ hd ⟨hr3, hr4⟩) hS fun r σ' H1 locs1 hq hP1 hS1 => ?_
  · rw [am_sum]
    show 2 * 0 + _ ≤ 8
    omega
  · have := kk r σ' hq H1 locs1 lsC hS1 hP1 hL
    cases r <;> simpa using this
end AMJ
set_option maxRecDepth 100000 in
set_option maxHeartbeats 4000000 in
theorem cj_t_coder {G : Cx} (hG : am_G G) (i : Nat) (hi : i < 8) (σ : Sg) : am_Ct G 1 yJ0_coder_7d493 mJ0_coder_7d493 [.ref (100 + i)] σ (am_qi 0 σ) := by
  refine am_enter hG rfl rfl (Nat.le_of_ble_eq_true rfl) ?_
  intro K h0 X
  refine am_jump (pc' := 0) (ls' := [some (.ref (100 + i))]) ?_ rfl ⟨rfl, trivial⟩
  refine am_gets_cs X dJ0_coder_7d493_0 (wm_r8 _ (List.mem_of_getElem? (i := 17) rfl)) ?_
  refine am_if_eq (tgt := 13) X dJ0_coder_7d493_3 (by decide) (fun c => absurd c (by decide)) (fun _ => ?_)
  refine am_aload_n X dJ0_coder_7d493_6 rfl rfl ?_
  refine am_str_coder X hi dJ0_coder_7d493_7 (wm_r8 _ (List.mem_of_getElem? (i := 18) rfl)) ?_
  refine am_goto (tgt := 14) X dJ0_coder_7d493_10 (by decide) ?_
  exact am_zret X h0 dJ0_coder_7d493_14 rfl (by decide) ⟨rfl, rfl⟩
set_option maxRecDepth 100000 in
set_option maxHeartbeats 4000000 in
theorem cj_t_isL {G : Cx} (hG : am_G G) (i : Nat) (hi : i < 8) (σ : Sg) : am_Ct G 1 yJ0_isLatin1_aae02 mJ0_isLatin1_aae02 [.ref (100 + i)] σ (am_qi 1 σ) := by
  refine am_enter hG rfl rfl (Nat.le_of_ble_eq_true rfl) ?_
  intro K h0 X
  refine am_jump (pc' := 0) (ls' := [some (.ref (100 + i))]) ?_ rfl ⟨rfl, trivial⟩
  refine am_gets_cs X dJ0_isLatin1_aae02_0 (wm_r8 _ (List.mem_of_getElem? (i := 17) rfl)) ?_
  refine am_if_eq (tgt := 17) X dJ0_isLatin1_aae02_3 (by decide) (fun c => absurd c (by decide)) (fun _ => ?_)
  refine am_aload_n X dJ0_isLatin1_aae02_6 rfl rfl ?_
  refine am_str_coder X hi dJ0_isLatin1_aae02_7 (wm_r8 _ (List.mem_of_getElem? (i := 18) rfl)) ?_
  refine am_if_ne (tgt := 17) X dJ0_isLatin1_aae02_10 (by decide) (fun c => absurd rfl c) (fun _ => ?_)
  refine am_iconst (v := (1 : Int32)) X dJ0_isLatin1_aae02_13 (by decide) ?_
  refine am_goto (tgt := 18) X dJ0_isLatin1_aae02_14 (by decide) ?_
  exact am_zret X h0 dJ0_isLatin1_aae02_18 rfl (by decide) ⟨rfl, rfl⟩
set_option maxRecDepth 100000 in
set_option maxHeartbeats 4000000 in
theorem cj_t_len {G : Cx} (hG : am_G G) (i : Nat) (hi : i < 8) (σ : Sg) : am_Ct G 2 yJ0_length_8abf5 mJ0_length_8abf5 [.ref (100 + i)] σ (am_qi (nI (am_len.getD i 0)) σ) := by
  refine am_enter hG rfl rfl (Nat.le_of_ble_eq_true rfl) ?_
  intro K h0 X
  refine am_jump (pc' := 0) (ls' := [some (.ref (100 + i))]) ?_ rfl ⟨rfl, trivial⟩
  refine am_aload_n X dJ0_length_8abf5_0 rfl rfl ?_
  refine am_str_value X hi dJ0_length_8abf5_1 (wm_r8 _ (List.mem_of_getElem? (i := 12) rfl)) ?_
  refine am_str_alen X hi dJ0_length_8abf5_4 ?_
  refine am_aload_n X dJ0_length_8abf5_5 rfl rfl ?_
  refine am_callS (As := []) (rest := [.int (nI (am_len.getD i 0))]) X hi dJ0_length_8abf5_6 cj_coder (cj_t_coder hG i hi σ) (Nat.le_of_ble_eq_true rfl) rfl rfl rfl (Nat.le_of_ble_eq_true rfl) (fun r σ' hq => ?_)
  obtain ⟨rfl, rfl⟩ := hq
  refine am_ishr X dJ0_length_8abf5_9 ?_
  exact am_iret X h0 dJ0_length_8abf5_10 rfl ⟨by rw [sb_shr0], rfl⟩
set_option maxRecDepth 100000 in
set_option maxHeartbeats 4000000 in
theorem cj_t_pci {G : Cx} (hG : am_G G) (x n : Int32) (v : Value) (hv : v.category = 1) (h1 : ¬ x < 0) (h2 : x < n) (σ : Sg) : am_Ct G 1 yJ3_checkIndex_8e157 mJ3_checkIndex_8e157 [.int x, .int n, v] σ (am_qi x σ) := by
  have hen : am_en [.int x, .int n, v] = [some (.int x), some (.int n), some v] := by
    have h3 : am_en [v] = [some v] := by
      unfold am_en
      rw [if_neg (by rw [hv]; decide)]
      rfl
    show some (.int x) :: some (.int n) :: am_en [v] = _
    rw [h3]
  refine am_enter hG rfl rfl (by rw [hen]; exact Nat.le_of_ble_eq_true rfl) ?_
  rw [hen]
  intro K h0 X
  refine am_iload_n X dJ3_checkIndex_8e157_0 rfl rfl ?_
  refine am_if_lt (tgt := 9) X dJ3_checkIndex_8e157_1 (by decide) (fun c => absurd c h1) (fun _ => ?_)
  refine am_iload_n X dJ3_checkIndex_8e157_4 rfl rfl ?_
  refine am_iload_n X dJ3_checkIndex_8e157_5 rfl rfl ?_
  refine am_icmp_lt (tgt := 16) X dJ3_checkIndex_8e157_6 (by decide) (fun _ => ?_) (fun c => absurd h2 c)
  refine am_iload_n X dJ3_checkIndex_8e157_16 rfl rfl ?_
  exact am_iret X h0 dJ3_checkIndex_8e157_17 rfl ⟨rfl, rfl⟩
set_option maxRecDepth 100000 in
set_option maxHeartbeats 4000000 in
theorem cj_t_ci {G : Cx} (hG : am_G G) (x n : Int32) (h1 : ¬ x < 0) (h2 : x < n) (σ : Sg) : am_Ct G 2 yJ0_checkIndex_df160 mJ0_checkIndex_df160 [.int x, .int n] σ (am_qv σ) := by
  refine am_enter hG rfl rfl (Nat.le_of_ble_eq_true rfl) ?_
  intro K h0 X
  refine am_jump (pc' := 0) (ls' := [some (.int x), some (.int n)]) ?_ rfl ⟨rfl, rfl, trivial⟩
  refine am_iload_n X dJ0_checkIndex_df160_0 rfl rfl ?_
  refine am_iload_n X dJ0_checkIndex_df160_1 rfl rfl ?_
  refine am_gets_q X dJ0_checkIndex_df160_2 (wm_r9 _ (List.mem_of_getElem? (i := 10) rfl)) (fun v hv => ?_)
  refine am_calls_i3 X dJ0_checkIndex_df160_5 cj_pci (cj_t_pci hG x n v hv h1 h2 σ) (Nat.le_of_ble_eq_true rfl) rfl (Nat.le_of_ble_eq_true rfl) ?_
  refine am_pop X dJ0_checkIndex_df160_8 rfl ?_
  exact am_vret X h0 dJ0_checkIndex_df160_9 rfl ⟨rfl, rfl⟩
set_option maxRecDepth 100000 in
set_option maxHeartbeats 4000000 in
theorem cj_t_lchr {G : Cx} (hG : am_G G) (i : Nat) (hi : i < 8) (j : Int32) (hj : inb j (am_len.getD i 0) = true) (σ : Sg) : am_Ct G 3 yJ1_charAt_3b067 mJ1_charAt_3b067 [.ref (120 + i), .int j] σ (am_qi (am_chr i j.toNatClampNeg) σ) := by
  refine am_enter hG rfl rfl (Nat.le_of_ble_eq_true rfl) ?_
  intro K h0 X
  refine am_jump (pc' := 0) (ls' := [some (.ref (120 + i)), some (.int j)]) ?_ rfl ⟨rfl, rfl, trivial⟩
  have hp := vp_in_iff.mp (inb_in hj)
  have hl0 : ∀ i, i < 8 → am_len.getD i 0 < 2 ^ 31 := by decide
  have hl := hl0 i hi
  refine am_iload_n X dJ1_charAt_3b067_0 rfl rfl ?_
  refine am_aload_n X dJ1_charAt_3b067_1 rfl rfl ?_
  refine am_str_alen X hi dJ1_charAt_3b067_2 ?_
  refine am_calls_v2 X dJ1_charAt_3b067_3 cj_ci (cj_t_ci hG j _ (by rw [Int32.lt_iff_toInt_lt]; simp; omega) (by rw [Int32.lt_iff_toInt_lt, nI_toInt hl]; omega) σ) (Nat.le_of_ble_eq_true rfl) rfl (Nat.le_of_ble_eq_true rfl) ?_
  refine am_aload_n X dJ1_charAt_3b067_6 rfl rfl ?_
  refine am_iload_n X dJ1_charAt_3b067_7 rfl rfl ?_
  refine am_str_bald X hi dJ1_charAt_3b067_8 hj ?_
  refine am_sipush (v := (255 : Int32)) X dJ1_charAt_3b067_9 (by decide) ?_
  refine am_iand X dJ1_charAt_3b067_12 ?_
  refine am_i2c X dJ1_charAt_3b067_13 ?_
  exact am_zret X h0 dJ1_charAt_3b067_14 rfl (pk_nc _) ⟨rfl, rfl⟩
set_option maxRecDepth 100000 in
set_option maxHeartbeats 4000000 in
theorem cj_t_chr {G : Cx} (hG : am_G G) (i : Nat) (hi : i < 8) (j : Int32) (hj : inb j (am_len.getD i 0) = true) (σ : Sg) : am_Ct G 4 yJ0_charAt_5068e mJ0_charAt_5068e [.ref (100 + i), .int j] σ (am_qi (am_chr i j.toNatClampNeg) σ) := by
  refine am_enter hG rfl rfl (Nat.le_of_ble_eq_true rfl) ?_
  intro K h0 X
  refine am_jump (pc' := 0) (ls' := [some (.ref (100 + i)), some (.int j)]) ?_ rfl ⟨rfl, rfl, trivial⟩
  refine am_aload_n X dJ0_charAt_5068e_0 rfl rfl ?_
  refine am_callS (As := []) (rest := []) X hi dJ0_charAt_5068e_1 cj_isL (cj_t_isL hG i hi σ) (Nat.le_of_ble_eq_true rfl) rfl rfl rfl (Nat.le_of_ble_eq_true rfl) (fun r σ' hq => ?_)
  obtain ⟨rfl, rfl⟩ := hq
  refine am_if_eq (tgt := 16) X dJ0_charAt_5068e_4 (by decide) (fun c => absurd c (by decide)) (fun _ => ?_)
  refine am_aload_n X dJ0_charAt_5068e_7 rfl rfl ?_
  refine am_str_value X hi dJ0_charAt_5068e_8 (wm_r8 _ (List.mem_of_getElem? (i := 12) rfl)) ?_
  refine am_iload_n X dJ0_charAt_5068e_11 rfl rfl ?_
  refine am_calls_i2 X dJ0_charAt_5068e_12 cj_lchr (cj_t_lchr hG i hi j hj _) (Nat.le_of_ble_eq_true rfl) rfl (Nat.le_of_ble_eq_true rfl) ?_
  exact am_zret X h0 dJ0_charAt_5068e_15 rfl (pk_nc _) ⟨rfl, rfl⟩
section AMN
variable {G : Cx} {M : Mi} {d : Nat} {K : Kx} {Qe : State → Prop} {pc : Nat} {ls : List (Option Value)} {st : List Value} {σ : Sg}
theorem am_strlen (X : am_X G M d K) (hG : am_G G) {idx i q : Nat} {v : Int32} (hd : decode M.2.1 pc = .ok (.invokevirtual idx, 3)) (hw : am_cv M.1 idx yJ0_length_8abf5 mJ0_length_8abf5 0) (hq : i < 8 ∧ q = 100 + i ∧ nI (am_len.getD i 0) = v) (hdd : 3 ≤ d) (hsm : (st.map fun v => v.category).sum ≤ 8) (kk : am_W G K Qe (pc + 3) ls (.int v :: st) σ) : am_W G K Qe pc ls (.ref q :: st) σ := by
  obtain ⟨hi, rfl, rfl⟩ := hq
  exact am_callS (As := []) X hi hd hw (cj_t_len hG i hi σ) hdd rfl rfl rfl hsm (fun r σ' hq => by obtain ⟨rfl, rfl⟩ := hq; exact kk)
theorem am_charAt (X : am_X G M d K) (hG : am_G G) {idx i q n : Nat} {j : Int32} (hd : decode M.2.1 pc = .ok (.invokevirtual idx, 3)) (hw : am_cv M.1 idx yJ0_charAt_5068e mJ0_charAt_5068e 1) (hq : i < 8 ∧ q = 100 + i ∧ am_len.getD i 0 = n) (hj : inb j n = true) (hdd : 5 ≤ d) (hsm : (st.map fun v => v.category).sum ≤ 8) (kk : am_W G K Qe (pc + 3) ls (.int (am_chr i j.toNatClampNeg) :: st) σ) : am_W G K Qe pc ls (.int j :: .ref q :: st) σ := by
  obtain ⟨hi, rfl, rfl⟩ := hq
  exact am_callS (As := [.int j]) X hi hd hw (cj_t_chr hG i hi j hj σ) hdd rfl rfl rfl hsm (fun r σ' hq => by obtain ⟨rfl, rfl⟩ := hq; exact kk)
theorem am_callsN_i2 (X : am_X G M d K) {d' : Nat} {a0 a1 : Value} {rest : List Value} {v : Int32} {σ1 : Sg} (hd : decode M.2.1 pc = .ok (.invokestatic 77, 3)) (hM : M.1 = "EvenTally$State") (h2 : True = True) (h3 : True = True) (hC : am_Ct G d' yX6_isUnder mX6_isUnder [a0, a1] σ (am_qi v σ1)) (hdd : d' + 1 ≤ d) (hn : True = True) (hsm : (rest.map fun v => v.category).sum ≤ 8) (kk : am_W G K Qe (pc + 3) ls (.int v :: rest) σ1) : am_W G K Qe pc ls (a1 :: a0 :: rest) σ := by
  obtain ⟨p, e, R, s, m, sa, below, meth, c, cells, slots⟩ := K
  intro H locs lsC hS hP hL
  obtain ⟨hx, hb, hml, hown, hts, -, -, hF, hz, ⟨hr1, hr2, hr3, hr4⟩, hG⟩ := X
  have w2 : Cond.initialized yX6_isUnder.cls ∈ wsL_law := wm_r1 _ (List.mem_of_getElem? (i := 2) rfl)
  have w3 : Cond.code yX6_isUnder mX6_isUnder.2.1 mX6_isUnder.2.2.1 mX6_isUnder.2.2.2 ∈ wsL_law := wm_r18 _ (List.mem_of_getElem? (i := 21) rfl)
  have w6 : Cond.static yX6_isUnder ∈ wsL_law := wm_r18 _ (List.mem_of_getElem? (i := 20) rfl)
  have hls : lsC.size = M.2.2.1 := by
    obtain ⟨l, h1, -⟩ := hL
    rw [← hml]
    exact h1.1
  refine am_after (restC := rest.map (am_v G)) (va_runSN (As := [a0, a1].map (am_v G)) (rest := rest.map (am_v G)) (cc := M.2.1) (nL := M.2.2.1) (own := "EvenTally$State") ⟨hx, hb, hml, by rw [← hM]; exact hown, hts⟩ hC
    ⟨va_cnB 2 hts (am_good w3) rfl rfl rfl hF.2.2.2.2.2.2.2.1 (hts _ w2) ⟨by decide +kernel, by decide +kernel, by decide +kernel⟩ ⟨by show d' + 1 ≤ R.frames; omega, by show 8 + (4 + 11) + 40 * d' ≤ R.locals; omega⟩, hts _ w6, trivial⟩
    ⟨am_blind, fun U hU hW => ⟨rfl, by rw [hU]; exact hP, by rw [hU]; exact (hF.warm hW).kept (fun a h1 h2 => hS.2.1 a h1 h2), by rw [hU]; exact Nat.le_trans hz hS.1⟩⟩ rfl rfl hls rfl ?_ hd ⟨hr3, hr4⟩) hS fun r σ' H1 locs1 hq hP1 hS1 => ?_
  · rw [am_sum]
    show 2 * 0 + _ ≤ 8
    omega
  · obtain ⟨rfl, rfl⟩ := hq
    exact kk H1 locs1 lsC hS1 hP1 hL
end AMN
