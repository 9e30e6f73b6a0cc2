set_option maxRecDepth 100000 in
set_option maxHeartbeats 4000000 in
theorem ct_X6_told {G : Cx} (hG : am_G G) (N : Nat) (x1 : Int32) (σ : Sg) (r : Int32 × Sg) (h : f_X6_told N x1 σ = some r) : am_Ct G 7 yX6_told mX6_told [.ref 0, .int x1] σ (am_qi r.1 r.2) := by
  refine am_enter hG rfl rfl (Nat.le_of_ble_eq_true rfl) ?_
  intro K h0 X
  unfold f_X6_told at h
  refine am_jump (pc' := 0) (ls' := [some (.ref 0), some (.int x1)]) ?_ rfl ⟨rfl, rfl, trivial⟩
  refine am_iload_n X dX6_told_0 rfl rfl ?_
  by_cases c0 : x1 = (0 : Int32)
  · have h := if_t h c0
    refine am_tabIn (tgt := 32) X dX6_told_1 c0 (by decide) (by decide) rfl (by decide) ?_
    refine am_aload_n X dX6_told_32 rfl rfl ?_
    refine am_getf (v := .ref 1) X dX6_told_33 fl_X6_12 rfl rfl (by decide) ?_
    refine am_getf (v := .int (rg σ 1 6)) X dX6_told_36 fl_X6_81 rfl rfl (by decide) ?_
    obtain rfl := Option.some.inj h
    exact am_iret X h0 dX6_told_39 rfl ⟨rfl, rfl⟩
  have h := if_f h c0
  by_cases c1 : x1 = (1 : Int32)
  · have h := if_t h c1
    refine am_tabIn (tgt := 40) X dX6_told_1 c1 (by decide) (by decide) rfl (by decide) ?_
    refine am_aload_n X dX6_told_40 rfl rfl ?_
    refine am_getf (v := .ref 1) X dX6_told_41 fl_X6_12 rfl rfl (by decide) ?_
    obtain ⟨v44, σ44, hc, h⟩ := bd2_some h
    refine am_callv_i0 X dX6_told_44 cw_X6_133 (ct_X4_paysOfAll hG N _ _ hc) (Nat.le_of_ble_eq_true rfl) rfl rfl rfl rfl (Nat.le_of_ble_eq_true rfl) ?_
    obtain rfl := Option.some.inj h
    exact am_iret X h0 dX6_told_47 rfl ⟨rfl, rfl⟩
  have h := if_f h c1
  by_cases c2 : x1 = (2 : Int32)
  · have h := if_t h c2
    refine am_tabIn (tgt := 48) X dX6_told_1 c2 (by decide) (by decide) rfl (by decide) ?_
    refine am_aload_n X dX6_told_48 rfl rfl ?_
    refine am_getf (v := .ref 1) X dX6_told_49 fl_X6_12 rfl rfl (by decide) ?_
    obtain ⟨v52, σ52, hc, h⟩ := bd2_some h
    refine am_callv_i0 X dX6_told_52 cw_X6_137 (ct_X4_unevenOfAll hG N _ _ hc) (Nat.le_of_ble_eq_true rfl) rfl rfl rfl rfl (Nat.le_of_ble_eq_true rfl) ?_
    obtain rfl := Option.some.inj h
    exact am_iret X h0 dX6_told_55 rfl ⟨rfl, rfl⟩
  have h := if_f h c2
  by_cases c3 : x1 = (3 : Int32)
  · have h := if_t h c3
    refine am_tabIn (tgt := 56) X dX6_told_1 c3 (by decide) (by decide) rfl (by decide) ?_
    refine am_aload_n X dX6_told_56 rfl rfl ?_
    refine am_getf (v := .ref 1) X dX6_told_57 fl_X6_12 rfl rfl (by decide) ?_
    obtain ⟨v60, σ60, hc, h⟩ := bd2_some h
    refine am_callv_i0 X dX6_told_60 cw_X6_140 (ct_X4_paying hG N _ _ hc) (Nat.le_of_ble_eq_true rfl) rfl rfl rfl rfl (Nat.le_of_ble_eq_true rfl) ?_
    obtain rfl := Option.some.inj h
    exact am_iret X h0 dX6_told_63 rfl ⟨rfl, rfl⟩
  have h := if_f h c3
  refine am_tabOut (tgt := 64) (vs := [(0 : Int32), (1 : Int32), (2 : Int32), (3 : Int32)]) X dX6_told_1 (List.forall_mem_cons.mpr ⟨c0, (List.forall_mem_cons.mpr ⟨c1, (List.forall_mem_cons.mpr ⟨c2, (List.forall_mem_cons.mpr ⟨c3, (fun _ h => absurd h List.not_mem_nil)⟩)⟩)⟩)⟩) (by decide) (by decide) ?_
  refine am_ldc (v := (-1000001 : Int32)) X dX6_told_64 (wm_r16 _ (List.mem_of_getElem? (i := 22) rfl)) ?_
  obtain rfl := Option.some.inj h
  exact am_iret X h0 dX6_told_66 rfl ⟨rfl, rfl⟩
set_option maxRecDepth 100000 in
set_option maxHeartbeats 4000000 in
theorem ct_X5_clear {G : Cx} (hG : am_G G) (N : Nat) (σ : Sg) (r : Sg) (h : f_X5_clear N σ = some r) : am_Ct G 1 yX5_clear mX5_clear [.ref 5] σ (am_qv r) := by
  refine am_enter hG rfl rfl (Nat.le_of_ble_eq_true rfl) ?_
  intro K h0 X
  unfold f_X5_clear at h
  refine am_jump (pc' := 0) (ls' := [some (.ref 5)]) ?_ rfl ⟨rfl, trivial⟩
  refine am_aload_n X dX5_clear_0 rfl rfl ?_
  refine am_iconst (v := (0 : Int32)) X dX5_clear_1 (by decide) ?_
  refine am_putfi X dX5_clear_2 fp_X5_27 rfl rfl ?_
  refine am_tops h (fun σ2 h => ?_)
  refine am_aload_n X dX5_clear_5 rfl rfl ?_
  refine am_iconst (v := (0 : Int32)) X dX5_clear_6 (by decide) ?_
  refine am_putfi X dX5_clear_7 fp_X5_31 rfl rfl ?_
  refine am_tops h (fun σ7 h => ?_)
  obtain rfl := Option.some.inj h
  exact am_vret X h0 dX5_clear_10 rfl ⟨rfl, rfl⟩
set_option maxRecDepth 100000 in
set_option maxHeartbeats 4000000 in
theorem ct_X2_take {G : Cx} (hG : am_G G) (N : Nat) (x1 : Int32) (σ : Sg) (r : Int32 × Sg) (h : f_X2_take N x1 σ = some r) : am_Ct G 1 yX2_take mX2_take [.ref 6, .int x1] σ (am_qi r.1 r.2) := by
  refine am_enter hG rfl rfl (Nat.le_of_ble_eq_true rfl) ?_
  intro K h0 X
  unfold f_X2_take at h
  refine am_jump (pc' := 0) (ls' := [some (.ref 6), some (.int x1)]) ?_ rfl ⟨rfl, rfl, trivial⟩
  refine am_aload_n X dX2_take_0 rfl rfl ?_
  refine am_getf (v := .int (rg σ 6 3)) X dX2_take_1 fl_X2_32 rfl rfl (by decide) ?_
  refine am_aload_n X dX2_take_4 rfl rfl ?_
  refine am_getf (v := .int (rg σ 6 2)) X dX2_take_5 fl_X2_28 rfl rfl (by decide) ?_
  refine am_icmp_ge (tgt := 24) X dX2_take_8 (by decide) (fun c => ?_) (fun c => ?_)
  · have h := if_t h c
    refine am_iconst (v := (0 : Int32)) X dX2_take_24 (by decide) ?_
    obtain rfl := Option.some.inj h
    exact am_zret X h0 dX2_take_25 rfl (by decide) ⟨rfl, rfl⟩
  · have h := if_f h c
    refine am_aload_n X dX2_take_11 rfl rfl ?_
    refine am_getf (v := .ref 41) X dX2_take_12 fl_X2_9 rfl rfl (by decide) ?_
    refine am_aload_n X dX2_take_15 rfl rfl ?_
    refine am_getf (v := .int (rg σ 6 3)) X dX2_take_16 fl_X2_32 rfl rfl (by decide) ?_
    obtain ⟨g, h⟩ := gd_some h
    refine am_iald X dX2_take_19 rfl g ?_
    refine am_iload_n X dX2_take_20 rfl rfl ?_
    refine am_icmp_eq (tgt := 26) X dX2_take_21 (by decide) (fun c => ?_) (fun c => ?_)
    · have h := if_t h c
      refine am_aload_n X dX2_take_26 rfl rfl ?_
      refine am_dup X dX2_take_27 rfl ?_
      refine am_getf (v := .int (rg σ 6 3)) X dX2_take_28 fl_X2_32 rfl rfl (by decide) ?_
      refine am_iconst (v := (1 : Int32)) X dX2_take_31 (by decide) ?_
      refine am_iadd X dX2_take_32 ?_
      refine am_putfi X dX2_take_33 fp_X2_32 rfl rfl ?_
      refine am_tops h (fun σ33 h => ?_)
      refine am_iconst (v := (1 : Int32)) X dX2_take_36 (by decide) ?_
      obtain rfl := Option.some.inj h
      exact am_zret X h0 dX2_take_37 rfl (by decide) ⟨rfl, rfl⟩
    · have h := if_f h c
      refine am_iconst (v := (0 : Int32)) X dX2_take_24 (by decide) ?_
      obtain rfl := Option.some.inj h
      exact am_zret X h0 dX2_take_25 rfl (by decide) ⟨rfl, rfl⟩
set_option maxRecDepth 100000 in
set_option maxHeartbeats 4000000 in
theorem ct_X2_digit {G : Cx} (hG : am_G G) (N : Nat) (σ : Sg) (r : Int32 × Sg) (h : f_X2_digit N σ = some r) : am_Ct G 1 yX2_digit mX2_digit [.ref 6] σ (am_qi r.1 r.2) := by
  refine am_enter hG rfl rfl (Nat.le_of_ble_eq_true rfl) ?_
  intro K h0 X
  unfold f_X2_digit at h
  refine am_jump (pc' := 0) (ls' := [some (.ref 6)]) ?_ rfl ⟨rfl, trivial⟩
  refine am_aload_n X dX2_digit_0 rfl rfl ?_
  refine am_getf (v := .int (rg σ 6 3)) X dX2_digit_1 fl_X2_32 rfl rfl (by decide) ?_
  refine am_aload_n X dX2_digit_4 rfl rfl ?_
  refine am_getf (v := .int (rg σ 6 2)) X dX2_digit_5 fl_X2_28 rfl rfl (by decide) ?_
  refine am_icmp_ge (tgt := 39) X dX2_digit_8 (by decide) (fun c => ?_) (fun c => ?_)
  · have h := if_t h c
    refine am_iconst (v := (-1 : Int32)) X dX2_digit_39 (by decide) ?_
    obtain rfl := Option.some.inj h
    exact am_iret X h0 dX2_digit_40 rfl ⟨rfl, rfl⟩
  · have h := if_f h c
    refine am_aload_n X dX2_digit_11 rfl rfl ?_
    refine am_getf (v := .ref 41) X dX2_digit_12 fl_X2_9 rfl rfl (by decide) ?_
    refine am_aload_n X dX2_digit_15 rfl rfl ?_
    refine am_getf (v := .int (rg σ 6 3)) X dX2_digit_16 fl_X2_32 rfl rfl (by decide) ?_
    obtain ⟨g, h⟩ := gd_some h
    refine am_iald X dX2_digit_19 rfl g ?_
    refine am_bipush (v := (48 : Int32)) X dX2_digit_20 (by decide) ?_
    refine am_icmp_lt (tgt := 39) X dX2_digit_22 (by decide) (fun c => ?_) (fun c => ?_)
    · have h := if_t h c
      refine am_iconst (v := (-1 : Int32)) X dX2_digit_39 (by decide) ?_
      obtain rfl := Option.some.inj h
      exact am_iret X h0 dX2_digit_40 rfl ⟨rfl, rfl⟩
    · have h := if_f h c
      refine am_aload_n X dX2_digit_25 rfl rfl ?_
      refine am_getf (v := .ref 41) X dX2_digit_26 fl_X2_9 rfl rfl (by decide) ?_
      refine am_aload_n X dX2_digit_29 rfl rfl ?_
      refine am_getf (v := .int (rg σ 6 3)) X dX2_digit_30 fl_X2_32 rfl rfl (by decide) ?_
      obtain ⟨g, h⟩ := gd_some h
      refine am_iald X dX2_digit_33 rfl g ?_
      refine am_bipush (v := (57 : Int32)) X dX2_digit_34 (by decide) ?_
      refine am_icmp_le (tgt := 41) X dX2_digit_36 (by decide) (fun c => ?_) (fun c => ?_)
      · have h := if_t h c
        refine am_aload_n X dX2_digit_41 rfl rfl ?_
        refine am_getf (v := .ref 41) X dX2_digit_42 fl_X2_9 rfl rfl (by decide) ?_
        refine am_aload_n X dX2_digit_45 rfl rfl ?_
        refine am_getf (v := .int (rg σ 6 3)) X dX2_digit_46 fl_X2_32 rfl rfl (by decide) ?_
        obtain ⟨g, h⟩ := gd_some h
        refine am_iald X dX2_digit_49 rfl g ?_
        refine am_bipush (v := (48 : Int32)) X dX2_digit_50 (by decide) ?_
        refine am_isub X dX2_digit_52 ?_
        obtain rfl := Option.some.inj h
        exact am_iret X h0 dX2_digit_53 rfl ⟨rfl, rfl⟩
      · have h := if_f h c
        refine am_iconst (v := (-1 : Int32)) X dX2_digit_39 (by decide) ?_
        obtain rfl := Option.some.inj h
        exact am_iret X h0 dX2_digit_40 rfl ⟨rfl, rfl⟩
set_option maxRecDepth 100000 in
set_option maxHeartbeats 4000000 in
theorem ct_X2_readNumber {G : Cx} (hG : am_G G) (N : Nat) (σ : Sg) (r : Int32 × Sg) (h : f_X2_readNumber N σ = some r) : am_Ct G 2 yX2_readNumber mX2_readNumber [.ref 6] σ (am_qi r.1 r.2) := by
  refine am_enter hG rfl rfl (Nat.le_of_ble_eq_true rfl) ?_
  intro K h0 X
  unfold f_X2_readNumber at h
  refine am_jump (pc' := 0) (ls' := [some (.ref 6), none, none]) ?_ rfl ⟨rfl, trivial⟩
  refine am_aload_n X dX2_readNumber_0 rfl rfl ?_
  obtain ⟨v1, σ1, hc, h⟩ := bd2_some h
  refine am_callv_i0 X dX2_readNumber_1 cw_X2_107 (ct_X2_digit hG N _ _ hc) (Nat.le_of_ble_eq_true rfl) rfl rfl rfl rfl (Nat.le_of_ble_eq_true rfl) ?_
  refine am_istore_n (ls' := [some (.ref 6), some (.int v1), none]) X dX2_readNumber_4 rfl (by decide)  rfl rfl ?_
  refine am_iload_n X dX2_readNumber_5 rfl rfl ?_
  refine am_if_ge (tgt := 11) X dX2_readNumber_6 (by decide) (fun c => ?_) (fun c => ?_)
  · have h := if_t h c
    refine am_aload_n X dX2_readNumber_11 rfl rfl ?_
    refine am_dup X dX2_readNumber_12 rfl ?_
    refine am_getf (v := .int (rg σ1 6 3)) X dX2_readNumber_13 fl_X2_32 rfl rfl (by decide) ?_
    refine am_iconst (v := (1 : Int32)) X dX2_readNumber_16 (by decide) ?_
    refine am_iadd X dX2_readNumber_17 ?_
    refine am_putfi X dX2_readNumber_18 fp_X2_32 rfl rfl ?_
    refine am_tops h (fun σ18 h => ?_)
    refine am_aload_n X dX2_readNumber_21 rfl rfl ?_
    refine am_iload_n X dX2_readNumber_22 rfl rfl ?_
    refine am_putfi X dX2_readNumber_23 fp_X2_75 rfl rfl ?_
    refine am_tops h (fun σ23 h => ?_)
    refine am_aload_n X dX2_readNumber_26 rfl rfl ?_
    obtain ⟨v27, σ27, hc, h⟩ := bd2_some h
    refine am_callv_i0 X dX2_readNumber_27 cw_X2_107 (ct_X2_digit hG N _ _ hc) (Nat.le_of_ble_eq_true rfl) rfl rfl rfl rfl (Nat.le_of_ble_eq_true rfl) ?_
    refine am_istore_n (ls' := [some (.ref 6), some (.int v1), some (.int v27)]) X dX2_readNumber_30 rfl (by decide)  rfl rfl ?_
    refine am_iload_n X dX2_readNumber_31 rfl rfl ?_
    refine am_if_le (tgt := 59) X dX2_readNumber_32 (by decide) (fun c => ?_) (fun c => ?_)
    · have h := if_t h c
      refine am_iconst (v := (1 : Int32)) X dX2_readNumber_59 (by decide) ?_
      obtain rfl := Option.some.inj h
      exact am_zret X h0 dX2_readNumber_60 rfl (by decide) ⟨rfl, rfl⟩
    · have h := if_f h c
      refine am_iload_n X dX2_readNumber_35 rfl rfl ?_
      refine am_if_lt (tgt := 59) X dX2_readNumber_36 (by decide) (fun c => ?_) (fun c => ?_)
      · have h := if_t h c
        refine am_iconst (v := (1 : Int32)) X dX2_readNumber_59 (by decide) ?_
        obtain rfl := Option.some.inj h
        exact am_zret X h0 dX2_readNumber_60 rfl (by decide) ⟨rfl, rfl⟩
      · have h := if_f h c
        refine am_aload_n X dX2_readNumber_39 rfl rfl ?_
        refine am_dup X dX2_readNumber_40 rfl ?_
        refine am_getf (v := .int (rg σ27 6 3)) X dX2_readNumber_41 fl_X2_32 rfl rfl (by decide) ?_
        refine am_iconst (v := (1 : Int32)) X dX2_readNumber_44 (by decide) ?_
        refine am_iadd X dX2_readNumber_45 ?_
        refine am_putfi X dX2_readNumber_46 fp_X2_32 rfl rfl ?_
        refine am_tops h (fun σ46 h => ?_)
        refine am_aload_n X dX2_readNumber_49 rfl rfl ?_
        refine am_iload_n X dX2_readNumber_50 rfl rfl ?_
        refine am_bipush (v := (10 : Int32)) X dX2_readNumber_51 (by decide) ?_
        refine am_imul X dX2_readNumber_53 ?_
        refine am_iload_n X dX2_readNumber_54 rfl rfl ?_
        refine am_iadd X dX2_readNumber_55 ?_
        refine am_putfi X dX2_readNumber_56 fp_X2_75 rfl rfl ?_
        refine am_tops h (fun σ56 h => ?_)
        refine am_iconst (v := (1 : Int32)) X dX2_readNumber_59 (by decide) ?_
        obtain rfl := Option.some.inj h
        exact am_zret X h0 dX2_readNumber_60 rfl (by decide) ⟨rfl, rfl⟩
  · have h := if_f h c
    refine am_iconst (v := (0 : Int32)) X dX2_readNumber_9 (by decide) ?_
    obtain rfl := Option.some.inj h
    exact am_zret X h0 dX2_readNumber_10 rfl (by decide) ⟨rfl, rfl⟩
set_option maxRecDepth 100000 in
set_option maxHeartbeats 4000000 in
theorem ct_X5_isFull {G : Cx} (hG : am_G G) (N : Nat) (σ : Sg) (r : Int32 × Sg) (h : f_X5_isFull N σ = some r) : am_Ct G 1 yX5_isFull mX5_isFull [.ref 5] σ (am_qi r.1 r.2) := by
  refine am_enter hG rfl rfl (Nat.le_of_ble_eq_true rfl) ?_
  intro K h0 X
  unfold f_X5_isFull at h
  refine am_jump (pc' := 0) (ls' := [some (.ref 5)]) ?_ rfl ⟨rfl, trivial⟩
  refine am_aload_n X dX5_isFull_0 rfl rfl ?_
  refine am_getf (v := .int (rg σ 5 0)) X dX5_isFull_1 fl_X5_27 rfl rfl (by decide) ?_
  refine am_bipush (v := (10 : Int32)) X dX5_isFull_4 (by decide) ?_
  refine am_icmp_lt (tgt := 13) X dX5_isFull_6 (by decide) (fun c => ?_) (fun c => ?_)
  · have h := if_t h c
    refine am_iconst (v := (0 : Int32)) X dX5_isFull_13 (by decide) ?_
    obtain rfl := Option.some.inj h
    exact am_zret X h0 dX5_isFull_14 rfl (by decide) ⟨rfl, rfl⟩
  · have h := if_f h c
    refine am_iconst (v := (1 : Int32)) X dX5_isFull_9 (by decide) ?_
    refine am_goto (tgt := 14) X dX5_isFull_10 (by decide) ?_
    obtain rfl := Option.some.inj h
    exact am_zret X h0 dX5_isFull_14 rfl (by decide) ⟨rfl, rfl⟩
set_option maxRecDepth 100000 in
set_option maxHeartbeats 4000000 in
theorem ct_X5_begin {G : Cx} (hG : am_G G) (N : Nat) (x1 : Int32) (x2 : Int32) (σ : Sg) (r : Sg) (h : f_X5_begin N x1 x2 σ = some r) : am_Ct G 2 yX5_begin mX5_begin [.ref 5, .int x1, .int x2] σ (am_qv r) := by
  refine am_enter hG rfl rfl (Nat.le_of_ble_eq_true rfl) ?_
  intro K h0 X
  unfold f_X5_begin at h
  refine am_jump (pc' := 0) (ls' := [some (.ref 5), some (.int x1), some (.int x2)]) ?_ rfl ⟨rfl, rfl, rfl, trivial⟩
  refine am_aload_n X dX5_begin_0 rfl rfl ?_
  obtain ⟨v1, σ1, hc, h⟩ := bd2_some h
  refine am_callv_i0 X dX5_begin_1 cw_X5_40 (ct_X5_isFull hG N _ _ hc) (Nat.le_of_ble_eq_true rfl) rfl rfl rfl rfl (Nat.le_of_ble_eq_true rfl) ?_
  refine am_if_eq (tgt := 8) X dX5_begin_4 (by decide) (fun c => ?_) (fun c => ?_)
  · have h := if_t h c
    refine am_aload_n X dX5_begin_8 rfl rfl ?_
    refine am_getf (v := .ref 36) X dX5_begin_9 fl_X5_9 rfl rfl (by decide) ?_
    refine am_aload_n X dX5_begin_12 rfl rfl ?_
    refine am_getf (v := .int (rg σ1 5 0)) X dX5_begin_13 fl_X5_27 rfl rfl (by decide) ?_
    refine am_iload_n X dX5_begin_16 rfl rfl ?_
    obtain ⟨g, h⟩ := gd_some h
    refine am_iast X dX5_begin_17 rfl g ?_
    refine am_tops h (fun σ17 h => ?_)
    refine am_aload_n X dX5_begin_18 rfl rfl ?_
    refine am_getf (v := .ref 37) X dX5_begin_19 fl_X5_15 rfl rfl (by decide) ?_
    refine am_aload_n X dX5_begin_22 rfl rfl ?_
    refine am_getf (v := .int (rg σ17 5 0)) X dX5_begin_23 fl_X5_27 rfl rfl (by decide) ?_
    refine am_iload_n X dX5_begin_26 rfl rfl ?_
    obtain ⟨g, h⟩ := gd_some h
    refine am_iast X dX5_begin_27 rfl g ?_
    refine am_tops h (fun σ27 h => ?_)
    refine am_aload_n X dX5_begin_28 rfl rfl ?_
    refine am_dup X dX5_begin_29 rfl ?_
    refine am_getf (v := .int (rg σ27 5 0)) X dX5_begin_30 fl_X5_27 rfl rfl (by decide) ?_
    refine am_iconst (v := (1 : Int32)) X dX5_begin_33 (by decide) ?_
    refine am_iadd X dX5_begin_34 ?_
    refine am_putfi X dX5_begin_35 fp_X5_27 rfl rfl ?_
    refine am_tops h (fun σ35 h => ?_)
    refine am_aload_n X dX5_begin_38 rfl rfl ?_
    refine am_getf (v := .ref 38) X dX5_begin_39 fl_X5_18 rfl rfl (by decide) ?_
    refine am_aload_n X dX5_begin_42 rfl rfl ?_
    refine am_getf (v := .int (rg σ35 5 0)) X dX5_begin_43 fl_X5_27 rfl rfl (by decide) ?_
    refine am_aload_n X dX5_begin_46 rfl rfl ?_
    refine am_getf (v := .int (rg σ35 5 4)) X dX5_begin_47 fl_X5_31 rfl rfl (by decide) ?_
    obtain ⟨g, h⟩ := gd_some h
    refine am_iast X dX5_begin_50 rfl g ?_
    refine am_tops h (fun σ50 h => ?_)
    obtain rfl := Option.some.inj h
    exact am_vret X h0 dX5_begin_51 rfl ⟨rfl, rfl⟩
  · have h := if_f h c
    obtain rfl := Option.some.inj h
    exact am_vret X h0 dX5_begin_7 rfl ⟨rfl, rfl⟩
set_option maxRecDepth 100000 in
set_option maxHeartbeats 4000000 in
theorem t_X2_readRest_2b {G : Cx} (hG : am_G G) (N : Nat) (k2 : Int32 → Int32 → Sg → Option (Int32 × Sg)) (hk2 : ∀ (x2 : Int32) (x3 : Int32) (σ : Sg) (r : Int32 × Sg), k2 x2 x3 σ = some r → am_Wp G mX2_readRest 4 (am_qi r.1 r.2) 2 [some (.ref 6), some (.ref 102), some (.int x2), some (.int x3)] [] σ) (x2 : Int32) (x3 : Int32) (σ : Sg) (r : Int32 × Sg) (h : b_X2_readRest_2b N k2 x2 x3 σ = some r) : am_Wp G mX2_readRest 4 (am_qi r.1 r.2) 2 [some (.ref 6), some (.ref 102), some (.int x2), some (.int x3)] [] σ := by
  intro K h0 X
  unfold b_X2_readRest_2b at h
  refine am_iload_n X dX2_readRest_2 rfl rfl ?_
  refine am_aload_n X dX2_readRest_3 rfl rfl ?_
  refine am_strlen (i := 2) (v := (4 : Int32)) X hG dX2_readRest_4 cw_X2_62 ⟨by decide, rfl, by decide⟩ (Nat.le_of_ble_eq_true rfl) (Nat.le_of_ble_eq_true rfl) ?_
  refine am_icmp_ge (tgt := 30) X dX2_readRest_7 (by decide) (fun c => ?_) (fun c => ?_)
  · have h := if_t h c
    refine am_aload_n X dX2_readRest_30 rfl rfl ?_
    refine am_bipush (v := (32 : Int32)) X dX2_readRest_31 (by decide) ?_
    obtain ⟨v33, σ33, hc, h⟩ := bd2_some h
    refine am_callv_i1 X dX2_readRest_33 cw_X2_49 (ct_X2_take hG N _ _ _ hc) (Nat.le_of_ble_eq_true rfl) rfl rfl rfl rfl (Nat.le_of_ble_eq_true rfl) ?_
    refine am_if_eq (tgt := 55) X dX2_readRest_36 (by decide) (fun c => ?_) (fun c => ?_)
    · have h := if_t h c
      refine am_iconst (v := (0 : Int32)) X dX2_readRest_55 (by decide) ?_
      obtain rfl := Option.some.inj h
      exact am_zret X h0 dX2_readRest_56 rfl (by decide) ⟨rfl, rfl⟩
    · have h := if_f h c
      refine am_aload_n X dX2_readRest_39 rfl rfl ?_
      obtain ⟨v40, σ40, hc, h⟩ := bd2_some h
      refine am_callv_i0 X dX2_readRest_40 cw_X2_72 (ct_X2_readNumber hG N _ _ hc) (Nat.le_of_ble_eq_true rfl) rfl rfl rfl rfl (Nat.le_of_ble_eq_true rfl) ?_
      refine am_if_eq (tgt := 55) X dX2_readRest_43 (by decide) (fun c => ?_) (fun c => ?_)
      · have h := if_t h c
        refine am_iconst (v := (0 : Int32)) X dX2_readRest_55 (by decide) ?_
        obtain rfl := Option.some.inj h
        exact am_zret X h0 dX2_readRest_56 rfl (by decide) ⟨rfl, rfl⟩
      · have h := if_f h c
        refine am_aload_n X dX2_readRest_46 rfl rfl ?_
        refine am_bipush (v := (32 : Int32)) X dX2_readRest_47 (by decide) ?_
        obtain ⟨v49, σ49, hc, h⟩ := bd2_some h
        refine am_callv_i1 X dX2_readRest_49 cw_X2_49 (ct_X2_take hG N _ _ _ hc) (Nat.le_of_ble_eq_true rfl) rfl rfl rfl rfl (Nat.le_of_ble_eq_true rfl) ?_
        refine am_if_ne (tgt := 57) X dX2_readRest_52 (by decide) (fun c => ?_) (fun c => ?_)
        · have h := if_f h c
          refine am_aload_n X dX2_readRest_57 rfl rfl ?_
          refine am_getf (v := .ref 5) X dX2_readRest_58 fl_X2_18 rfl rfl (by decide) ?_
          refine am_iload_n X dX2_readRest_61 rfl rfl ?_
          refine am_aload_n X dX2_readRest_62 rfl rfl ?_
          refine am_getf (v := .int (rg σ49 6 4)) X dX2_readRest_63 fl_X2_75 rfl rfl (by decide) ?_
          obtain ⟨σ66, hc, h⟩ := bd_some h
          refine am_callv_v2 X dX2_readRest_66 cw_X2_78 (ct_X5_begin hG N _ _ _ _ hc) (Nat.le_of_ble_eq_true rfl) rfl rfl rfl rfl (Nat.le_of_ble_eq_true rfl) ?_
          refine am_iconst (v := (1 : Int32)) X dX2_readRest_69 (by decide) ?_
          obtain rfl := Option.some.inj h
          exact am_zret X h0 dX2_readRest_70 rfl (by decide) ⟨rfl, rfl⟩
        · have h := if_t h c
          refine am_iconst (v := (0 : Int32)) X dX2_readRest_55 (by decide) ?_
          obtain rfl := Option.some.inj h
          exact am_zret X h0 dX2_readRest_56 rfl (by decide) ⟨rfl, rfl⟩
  · have h := if_f h c
    refine am_aload_n X dX2_readRest_10 rfl rfl ?_
    refine am_aload_n X dX2_readRest_11 rfl rfl ?_
    refine am_iload_n X dX2_readRest_12 rfl rfl ?_
    obtain ⟨g, h⟩ := gd_some h
    refine am_charAt (i := 2) X hG dX2_readRest_13 cw_X2_68 ⟨by decide, rfl, rfl⟩ g (Nat.le_of_ble_eq_true rfl) (Nat.le_of_ble_eq_true rfl) ?_
    obtain ⟨v16, σ16, hc, h⟩ := bd2_some h
    refine am_callv_i1 X dX2_readRest_16 cw_X2_49 (ct_X2_take hG N _ _ _ hc) (Nat.le_of_ble_eq_true rfl) rfl rfl rfl rfl (Nat.le_of_ble_eq_true rfl) ?_
    refine am_if_ne (tgt := 24) X dX2_readRest_19 (by decide) (fun c => ?_) (fun c => ?_)
    · have h := if_f h c
      refine am_iinc (ls' := fun x3_24 => [some (.ref 6), some (.ref 102), some (.int x2), some (.int x3_24)]) X dX2_readRest_24 rfl h (by decide) (by decide) rfl (fun _ => rfl) (fun x3_24 h => ?_)
      refine am_goto (tgt := 2) X dX2_readRest_27 (by decide) ?_
      exact am_jump (hk2 _ _ _ _ h K h0 X) rfl ⟨rfl, rfl, rfl, rfl, trivial⟩
    · have h := if_t h c
      refine am_iconst (v := (0 : Int32)) X dX2_readRest_22 (by decide) ?_
      obtain rfl := Option.some.inj h
      exact am_zret X h0 dX2_readRest_23 rfl (by decide) ⟨rfl, rfl⟩
set_option maxRecDepth 100000 in
set_option maxHeartbeats 4000000 in
theorem t_X2_readRest_2 {G : Cx} (hG : am_G G) (N : Nat) : ∀ (n : Nat) (x2 : Int32) (x3 : Int32) (σ : Sg) (r : Int32 × Sg), b_X2_readRest_2 N n x2 x3 σ = some r → am_Wp G mX2_readRest 4 (am_qi r.1 r.2) 2 [some (.ref 6), some (.ref 102), some (.int x2), some (.int x3)] [] σ := by
  intro n
  induction n with
  | zero => intro x2 x3 σ r h; cases h
  | succ n ih => intro x2 x3 σ r h; exact t_X2_readRest_2b hG N (b_X2_readRest_2 N n) ih x2 x3 σ r h
set_option maxRecDepth 100000 in
set_option maxHeartbeats 4000000 in
theorem ct_X2_readRest {G : Cx} (hG : am_G G) (N : Nat) (x2 : Int32) (σ : Sg) (r : Int32 × Sg) (h : f_X2_readRest N x2 σ = some r) : am_Ct G 5 yX2_readRest mX2_readRest [.ref 6, .ref 102, .int x2] σ (am_qi r.1 r.2) := by
  refine am_enter hG rfl rfl (Nat.le_of_ble_eq_true rfl) ?_
  intro K h0 X
  unfold f_X2_readRest at h
  refine am_jump (pc' := 0) (ls' := [some (.ref 6), some (.ref 102), some (.int x2), none]) ?_ rfl ⟨rfl, rfl, rfl, trivial⟩
  refine am_iconst (v := (0 : Int32)) X dX2_readRest_0 (by decide) ?_
  refine am_istore_n (ls' := [some (.ref 6), some (.ref 102), some (.int x2), some (.int (0 : Int32))]) X dX2_readRest_1 rfl (by decide)  rfl rfl ?_
  exact am_jump (t_X2_readRest_2 hG N N _ _ _ _ h K h0 X) rfl ⟨rfl, rfl, rfl, rfl, trivial⟩
set_option maxRecDepth 100000 in
set_option maxHeartbeats 4000000 in
theorem t_X2_readRest_v1_2b {G : Cx} (hG : am_G G) (N : Nat) (k2 : Int32 → Int32 → Sg → Option (Int32 × Sg)) (hk2 : ∀ (x2 : Int32) (x3 : Int32) (σ : Sg) (r : Int32 × Sg), k2 x2 x3 σ = some r → am_Wp G mX2_readRest 4 (am_qi r.1 r.2) 2 [some (.ref 6), some (.ref 101), some (.int x2), some (.int x3)] [] σ) (x2 : Int32) (x3 : Int32) (σ : Sg) (r : Int32 × Sg) (h : b_X2_readRest_v1_2b N k2 x2 x3 σ = some r) : am_Wp G mX2_readRest 4 (am_qi r.1 r.2) 2 [some (.ref 6), some (.ref 101), some (.int x2), some (.int x3)] [] σ := by
  intro K h0 X
  unfold b_X2_readRest_v1_2b at h
  refine am_iload_n X dX2_readRest_2 rfl rfl ?_
  refine am_aload_n X dX2_readRest_3 rfl rfl ?_
  refine am_strlen (i := 1) (v := (3 : Int32)) X hG dX2_readRest_4 cw_X2_62 ⟨by decide, rfl, by decide⟩ (Nat.le_of_ble_eq_true rfl) (Nat.le_of_ble_eq_true rfl) ?_
  refine am_icmp_ge (tgt := 30) X dX2_readRest_7 (by decide) (fun c => ?_) (fun c => ?_)
  · have h := if_t h c
    refine am_aload_n X dX2_readRest_30 rfl rfl ?_
    refine am_bipush (v := (32 : Int32)) X dX2_readRest_31 (by decide) ?_
    obtain ⟨v33, σ33, hc, h⟩ := bd2_some h
    refine am_callv_i1 X dX2_readRest_33 cw_X2_49 (ct_X2_take hG N _ _ _ hc) (Nat.le_of_ble_eq_true rfl) rfl rfl rfl rfl (Nat.le_of_ble_eq_true rfl) ?_
    refine am_if_eq (tgt := 55) X dX2_readRest_36 (by decide) (fun c => ?_) (fun c => ?_)
    · have h := if_t h c
      refine am_iconst (v := (0 : Int32)) X dX2_readRest_55 (by decide) ?_
      obtain rfl := Option.some.inj h
      exact am_zret X h0 dX2_readRest_56 rfl (by decide) ⟨rfl, rfl⟩
    · have h := if_f h c
      refine am_aload_n X dX2_readRest_39 rfl rfl ?_
      obtain ⟨v40, σ40, hc, h⟩ := bd2_some h
      refine am_callv_i0 X dX2_readRest_40 cw_X2_72 (ct_X2_readNumber hG N _ _ hc) (Nat.le_of_ble_eq_true rfl) rfl rfl rfl rfl (Nat.le_of_ble_eq_true rfl) ?_
      refine am_if_eq (tgt := 55) X dX2_readRest_43 (by decide) (fun c => ?_) (fun c => ?_)
      · have h := if_t h c
        refine am_iconst (v := (0 : Int32)) X dX2_readRest_55 (by decide) ?_
        obtain rfl := Option.some.inj h
        exact am_zret X h0 dX2_readRest_56 rfl (by decide) ⟨rfl, rfl⟩
      · have h := if_f h c
        refine am_aload_n X dX2_readRest_46 rfl rfl ?_
        refine am_bipush (v := (32 : Int32)) X dX2_readRest_47 (by decide) ?_
        obtain ⟨v49, σ49, hc, h⟩ := bd2_some h
        refine am_callv_i1 X dX2_readRest_49 cw_X2_49 (ct_X2_take hG N _ _ _ hc) (Nat.le_of_ble_eq_true rfl) rfl rfl rfl rfl (Nat.le_of_ble_eq_true rfl) ?_
        refine am_if_ne (tgt := 57) X dX2_readRest_52 (by decide) (fun c => ?_) (fun c => ?_)
        · have h := if_f h c
          refine am_aload_n X dX2_readRest_57 rfl rfl ?_
          refine am_getf (v := .ref 5) X dX2_readRest_58 fl_X2_18 rfl rfl (by decide) ?_
          refine am_iload_n X dX2_readRest_61 rfl rfl ?_
          refine am_aload_n X dX2_readRest_62 rfl rfl ?_
          refine am_getf (v := .int (rg σ49 6 4)) X dX2_readRest_63 fl_X2_75 rfl rfl (by decide) ?_
          obtain ⟨σ66, hc, h⟩ := bd_some h
          refine am_callv_v2 X dX2_readRest_66 cw_X2_78 (ct_X5_begin hG N _ _ _ _ hc) (Nat.le_of_ble_eq_true rfl) rfl rfl rfl rfl (Nat.le_of_ble_eq_true rfl) ?_
          refine am_iconst (v := (1 : Int32)) X dX2_readRest_69 (by decide) ?_
          obtain rfl := Option.some.inj h
          exact am_zret X h0 dX2_readRest_70 rfl (by decide) ⟨rfl, rfl⟩
        · have h := if_t h c
          refine am_iconst (v := (0 : Int32)) X dX2_readRest_55 (by decide) ?_
          obtain rfl := Option.some.inj h
          exact am_zret X h0 dX2_readRest_56 rfl (by decide) ⟨rfl, rfl⟩
  · have h := if_f h c
    refine am_aload_n X dX2_readRest_10 rfl rfl ?_
    refine am_aload_n X dX2_readRest_11 rfl rfl ?_
    refine am_iload_n X dX2_readRest_12 rfl rfl ?_
    obtain ⟨g, h⟩ := gd_some h
    refine am_charAt (i := 1) X hG dX2_readRest_13 cw_X2_68 ⟨by decide, rfl, rfl⟩ g (Nat.le_of_ble_eq_true rfl) (Nat.le_of_ble_eq_true rfl) ?_
    obtain ⟨v16, σ16, hc, h⟩ := bd2_some h
    refine am_callv_i1 X dX2_readRest_16 cw_X2_49 (ct_X2_take hG N _ _ _ hc) (Nat.le_of_ble_eq_true rfl) rfl rfl rfl rfl (Nat.le_of_ble_eq_true rfl) ?_
    refine am_if_ne (tgt := 24) X dX2_readRest_19 (by decide) (fun c => ?_) (fun c => ?_)
    · have h := if_f h c
      refine am_iinc (ls' := fun x3_24 => [some (.ref 6), some (.ref 101), some (.int x2), some (.int x3_24)]) X dX2_readRest_24 rfl h (by decide) (by decide) rfl (fun _ => rfl) (fun x3_24 h => ?_)
      refine am_goto (tgt := 2) X dX2_readRest_27 (by decide) ?_
      exact am_jump (hk2 _ _ _ _ h K h0 X) rfl ⟨rfl, rfl, rfl, rfl, trivial⟩
    · have h := if_t h c
      refine am_iconst (v := (0 : Int32)) X dX2_readRest_22 (by decide) ?_
      obtain rfl := Option.some.inj h
      exact am_zret X h0 dX2_readRest_23 rfl (by decide) ⟨rfl, rfl⟩
set_option maxRecDepth 100000 in
set_option maxHeartbeats 4000000 in
theorem t_X2_readRest_v1_2 {G : Cx} (hG : am_G G) (N : Nat) : ∀ (n : Nat) (x2 : Int32) (x3 : Int32) (σ : Sg) (r : Int32 × Sg), b_X2_readRest_v1_2 N n x2 x3 σ = some r → am_Wp G mX2_readRest 4 (am_qi r.1 r.2) 2 [some (.ref 6), some (.ref 101), some (.int x2), some (.int x3)] [] σ := by
  intro n
  induction n with
  | zero => intro x2 x3 σ r h; cases h
  | succ n ih => intro x2 x3 σ r h; exact t_X2_readRest_v1_2b hG N (b_X2_readRest_v1_2 N n) ih x2 x3 σ r h
set_option maxRecDepth 100000 in
set_option maxHeartbeats 4000000 in
theorem ct_X2_readRest_v1 {G : Cx} (hG : am_G G) (N : Nat) (x2 : Int32) (σ : Sg) (r : Int32 × Sg) (h : f_X2_readRest_v1 N x2 σ = some r) : am_Ct G 5 yX2_readRest mX2_readRest [.ref 6, .ref 101, .int x2] σ (am_qi r.1 r.2) := by
  refine am_enter hG rfl rfl (Nat.le_of_ble_eq_true rfl) ?_
  intro K h0 X
  unfold f_X2_readRest_v1 at h
  refine am_jump (pc' := 0) (ls' := [some (.ref 6), some (.ref 101), some (.int x2), none]) ?_ rfl ⟨rfl, rfl, rfl, trivial⟩
  refine am_iconst (v := (0 : Int32)) X dX2_readRest_0 (by decide) ?_
  refine am_istore_n (ls' := [some (.ref 6), some (.ref 101), some (.int x2), some (.int (0 : Int32))]) X dX2_readRest_1 rfl (by decide)  rfl rfl ?_
  exact am_jump (t_X2_readRest_v1_2 hG N N _ _ _ _ h K h0 X) rfl ⟨rfl, rfl, rfl, rfl, trivial⟩
set_option maxRecDepth 100000 in
set_option maxHeartbeats 4000000 in
theorem t_X2_readRest_v2_2b {G : Cx} (hG : am_G G) (N : Nat) (k2 : Int32 → Int32 → Sg → Option (Int32 × Sg)) (hk2 : ∀ (x2 : Int32) (x3 : Int32) (σ : Sg) (r : Int32 × Sg), k2 x2 x3 σ = some r → am_Wp G mX2_readRest 4 (am_qi r.1 r.2) 2 [some (.ref 6), some (.ref 100), some (.int x2), some (.int x3)] [] σ) (x2 : Int32) (x3 : Int32) (σ : Sg) (r : Int32 × Sg) (h : b_X2_readRest_v2_2b N k2 x2 x3 σ = some r) : am_Wp G mX2_readRest 4 (am_qi r.1 r.2) 2 [some (.ref 6), some (.ref 100), some (.int x2), some (.int x3)] [] σ := by
  intro K h0 X
  unfold b_X2_readRest_v2_2b at h
  refine am_iload_n X dX2_readRest_2 rfl rfl ?_
  refine am_aload_n X dX2_readRest_3 rfl rfl ?_
  refine am_strlen (i := 0) (v := (3 : Int32)) X hG dX2_readRest_4 cw_X2_62 ⟨by decide, rfl, by decide⟩ (Nat.le_of_ble_eq_true rfl) (Nat.le_of_ble_eq_true rfl) ?_
  refine am_icmp_ge (tgt := 30) X dX2_readRest_7 (by decide) (fun c => ?_) (fun c => ?_)
  · have h := if_t h c
    refine am_aload_n X dX2_readRest_30 rfl rfl ?_
    refine am_bipush (v := (32 : Int32)) X dX2_readRest_31 (by decide) ?_
    obtain ⟨v33, σ33, hc, h⟩ := bd2_some h
    refine am_callv_i1 X dX2_readRest_33 cw_X2_49 (ct_X2_take hG N _ _ _ hc) (Nat.le_of_ble_eq_true rfl) rfl rfl rfl rfl (Nat.le_of_ble_eq_true rfl) ?_
    refine am_if_eq (tgt := 55) X dX2_readRest_36 (by decide) (fun c => ?_) (fun c => ?_)
    · have h := if_t h c
      refine am_iconst (v := (0 : Int32)) X dX2_readRest_55 (by decide) ?_
      obtain rfl := Option.some.inj h
      exact am_zret X h0 dX2_readRest_56 rfl (by decide) ⟨rfl, rfl⟩
    · have h := if_f h c
      refine am_aload_n X dX2_readRest_39 rfl rfl ?_
      obtain ⟨v40, σ40, hc, h⟩ := bd2_some h
      refine am_callv_i0 X dX2_readRest_40 cw_X2_72 (ct_X2_readNumber hG N _ _ hc) (Nat.le_of_ble_eq_true rfl) rfl rfl rfl rfl (Nat.le_of_ble_eq_true rfl) ?_
      refine am_if_eq (tgt := 55) X dX2_readRest_43 (by decide) (fun c => ?_) (fun c => ?_)
      · have h := if_t h c
        refine am_iconst (v := (0 : Int32)) X dX2_readRest_55 (by decide) ?_
        obtain rfl := Option.some.inj h
        exact am_zret X h0 dX2_readRest_56 rfl (by decide) ⟨rfl, rfl⟩
      · have h := if_f h c
        refine am_aload_n X dX2_readRest_46 rfl rfl ?_
        refine am_bipush (v := (32 : Int32)) X dX2_readRest_47 (by decide) ?_
        obtain ⟨v49, σ49, hc, h⟩ := bd2_some h
        refine am_callv_i1 X dX2_readRest_49 cw_X2_49 (ct_X2_take hG N _ _ _ hc) (Nat.le_of_ble_eq_true rfl) rfl rfl rfl rfl (Nat.le_of_ble_eq_true rfl) ?_
        refine am_if_ne (tgt := 57) X dX2_readRest_52 (by decide) (fun c => ?_) (fun c => ?_)
        · have h := if_f h c
          refine am_aload_n X dX2_readRest_57 rfl rfl ?_
          refine am_getf (v := .ref 5) X dX2_readRest_58 fl_X2_18 rfl rfl (by decide) ?_
          refine am_iload_n X dX2_readRest_61 rfl rfl ?_
          refine am_aload_n X dX2_readRest_62 rfl rfl ?_
          refine am_getf (v := .int (rg σ49 6 4)) X dX2_readRest_63 fl_X2_75 rfl rfl (by decide) ?_
          obtain ⟨σ66, hc, h⟩ := bd_some h
          refine am_callv_v2 X dX2_readRest_66 cw_X2_78 (ct_X5_begin hG N _ _ _ _ hc) (Nat.le_of_ble_eq_true rfl) rfl rfl rfl rfl (Nat.le_of_ble_eq_true rfl) ?_
          refine am_iconst (v := (1 : Int32)) X dX2_readRest_69 (by decide) ?_
          obtain rfl := Option.some.inj h
          exact am_zret X h0 dX2_readRest_70 rfl (by decide) ⟨rfl, rfl⟩
        · have h := if_t h c
          refine am_iconst (v := (0 : Int32)) X dX2_readRest_55 (by decide) ?_
          obtain rfl := Option.some.inj h
          exact am_zret X h0 dX2_readRest_56 rfl (by decide) ⟨rfl, rfl⟩
  · have h := if_f h c
    refine am_aload_n X dX2_readRest_10 rfl rfl ?_
    refine am_aload_n X dX2_readRest_11 rfl rfl ?_
    refine am_iload_n X dX2_readRest_12 rfl rfl ?_
    obtain ⟨g, h⟩ := gd_some h
    refine am_charAt (i := 0) X hG dX2_readRest_13 cw_X2_68 ⟨by decide, rfl, rfl⟩ g (Nat.le_of_ble_eq_true rfl) (Nat.le_of_ble_eq_true rfl) ?_
    obtain ⟨v16, σ16, hc, h⟩ := bd2_some h
    refine am_callv_i1 X dX2_readRest_16 cw_X2_49 (ct_X2_take hG N _ _ _ hc) (Nat.le_of_ble_eq_true rfl) rfl rfl rfl rfl (Nat.le_of_ble_eq_true rfl) ?_
    refine am_if_ne (tgt := 24) X dX2_readRest_19 (by decide) (fun c => ?_) (fun c => ?_)
    · have h := if_f h c
      refine am_iinc (ls' := fun x3_24 => [some (.ref 6), some (.ref 100), some (.int x2), some (.int x3_24)]) X dX2_readRest_24 rfl h (by decide) (by decide) rfl (fun _ => rfl) (fun x3_24 h => ?_)
      refine am_goto (tgt := 2) X dX2_readRest_27 (by decide) ?_
      exact am_jump (hk2 _ _ _ _ h K h0 X) rfl ⟨rfl, rfl, rfl, rfl, trivial⟩
    · have h := if_t h c
      refine am_iconst (v := (0 : Int32)) X dX2_readRest_22 (by decide) ?_
      obtain rfl := Option.some.inj h
      exact am_zret X h0 dX2_readRest_23 rfl (by decide) ⟨rfl, rfl⟩
set_option maxRecDepth 100000 in
set_option maxHeartbeats 4000000 in
theorem t_X2_readRest_v2_2 {G : Cx} (hG : am_G G) (N : Nat) : ∀ (n : Nat) (x2 : Int32) (x3 : Int32) (σ : Sg) (r : Int32 × Sg), b_X2_readRest_v2_2 N n x2 x3 σ = some r → am_Wp G mX2_readRest 4 (am_qi r.1 r.2) 2 [some (.ref 6), some (.ref 100), some (.int x2), some (.int x3)] [] σ := by
  intro n
  induction n with
  | zero => intro x2 x3 σ r h; cases h
  | succ n ih => intro x2 x3 σ r h; exact t_X2_readRest_v2_2b hG N (b_X2_readRest_v2_2 N n) ih x2 x3 σ r h
set_option maxRecDepth 100000 in
set_option maxHeartbeats 4000000 in
theorem ct_X2_readRest_v2 {G : Cx} (hG : am_G G) (N : Nat) (x2 : Int32) (σ : Sg) (r : Int32 × Sg) (h : f_X2_readRest_v2 N x2 σ = some r) : am_Ct G 5 yX2_readRest mX2_readRest [.ref 6, .ref 100, .int x2] σ (am_qi r.1 r.2) := by
  refine am_enter hG rfl rfl (Nat.le_of_ble_eq_true rfl) ?_
  intro K h0 X
  unfold f_X2_readRest_v2 at h
  refine am_jump (pc' := 0) (ls' := [some (.ref 6), some (.ref 100), some (.int x2), none]) ?_ rfl ⟨rfl, rfl, rfl, trivial⟩
  refine am_iconst (v := (0 : Int32)) X dX2_readRest_0 (by decide) ?_
  refine am_istore_n (ls' := [some (.ref 6), some (.ref 100), some (.int x2), some (.int (0 : Int32))]) X dX2_readRest_1 rfl (by decide)  rfl rfl ?_
  exact am_jump (t_X2_readRest_v2_2 hG N N _ _ _ _ h K h0 X) rfl ⟨rfl, rfl, rfl, rfl, trivial⟩
set_option maxRecDepth 100000 in
set_option maxHeartbeats 4000000 in
theorem t_X2_readHead_57 {G : Cx} (hG : am_G G) (N : Nat) (σ : Sg) (r : Int32 × Sg) (h : b_X2_readHead_57 N σ = some r) : am_Wp G mX2_readHead 5 (am_qi r.1 r.2) 57 [none] [] σ := by
  intro K h0 X
  unfold b_X2_readHead_57 at h
  refine am_iconst (v := (0 : Int32)) X dX2_readHead_57 (by decide) ?_
  obtain rfl := Option.some.inj h
  exact am_zret X h0 dX2_readHead_58 rfl (by decide) ⟨rfl, rfl⟩
set_option maxRecDepth 100000 in
set_option maxHeartbeats 4000000 in
theorem ct_X2_readHead {G : Cx} (hG : am_G G) (N : Nat) (σ : Sg) (r : Int32 × Sg) (h : f_X2_readHead N σ = some r) : am_Ct G 6 yX2_readHead mX2_readHead [.ref 6] σ (am_qi r.1 r.2) := by
  refine am_enter hG rfl rfl (Nat.le_of_ble_eq_true rfl) ?_
  intro K h0 X
  unfold f_X2_readHead at h
  refine am_jump (pc' := 0) (ls' := [some (.ref 6)]) ?_ rfl ⟨rfl, trivial⟩
  refine am_aload_n X dX2_readHead_0 rfl rfl ?_
  refine am_bipush (v := (102 : Int32)) X dX2_readHead_1 (by decide) ?_
  obtain ⟨v3, σ3, hc, h⟩ := bd2_some h
  refine am_callv_i1 X dX2_readHead_3 cw_X2_49 (ct_X2_take hG N _ _ _ hc) (Nat.le_of_ble_eq_true rfl) rfl rfl rfl rfl (Nat.le_of_ble_eq_true rfl) ?_
  refine am_if_eq (tgt := 17) X dX2_readHead_6 (by decide) (fun c => ?_) (fun c => ?_)
  · have h := if_t h c
    refine am_aload_n X dX2_readHead_17 rfl rfl ?_
    refine am_bipush (v := (115 : Int32)) X dX2_readHead_18 (by decide) ?_
    obtain ⟨v20, σ20, hc, h⟩ := bd2_some h
    refine am_callv_i1 X dX2_readHead_20 cw_X2_49 (ct_X2_take hG N _ _ _ hc) (Nat.le_of_ble_eq_true rfl) rfl rfl rfl rfl (Nat.le_of_ble_eq_true rfl) ?_
    refine am_if_eq (tgt := 34) X dX2_readHead_23 (by decide) (fun c => ?_) (fun c => ?_)
    · have h := if_t h c
      refine am_aload_n X dX2_readHead_34 rfl rfl ?_
      refine am_bipush (v := (97 : Int32)) X dX2_readHead_35 (by decide) ?_
      obtain ⟨v37, σ37, hc, h⟩ := bd2_some h
      refine am_callv_i1 X dX2_readHead_37 cw_X2_49 (ct_X2_take hG N _ _ _ hc) (Nat.le_of_ble_eq_true rfl) rfl rfl rfl rfl (Nat.le_of_ble_eq_true rfl) ?_
      refine am_if_eq (tgt := 57) X dX2_readHead_40 (by decide) (fun c => ?_) (fun c => ?_)
      · have h := if_t h c
        exact am_jump (t_X2_readHead_57 hG N _ _ h K h0 X) rfl trivial
      · have h := if_f h c
        refine am_aload_n X dX2_readHead_43 rfl rfl ?_
        refine am_ldcS (i := 2) (tx := "llow") X dX2_readHead_44 (by decide) ?_
        refine am_iconst (v := (2 : Int32)) X dX2_readHead_46 (by decide) ?_
        obtain ⟨v47, σ47, hc, h⟩ := bd2_some h
        refine am_callv_i2 X dX2_readHead_47 cw_X2_54 (ct_X2_readRest hG N _ _ _ hc) (Nat.le_of_ble_eq_true rfl) rfl rfl rfl rfl (Nat.le_of_ble_eq_true rfl) ?_
        refine am_if_eq (tgt := 57) X dX2_readHead_50 (by decide) (fun c => ?_) (fun c => ?_)
        · have h := if_t h c
          exact am_jump (t_X2_readHead_57 hG N _ _ h K h0 X) rfl trivial
        · have h := if_f h c
          refine am_iconst (v := (1 : Int32)) X dX2_readHead_53 (by decide) ?_
          refine am_goto (tgt := 58) X dX2_readHead_54 (by decide) ?_
          obtain rfl := Option.some.inj h
          exact am_zret X h0 dX2_readHead_58 rfl (by decide) ⟨rfl, rfl⟩
    · have h := if_f h c
      refine am_aload_n X dX2_readHead_26 rfl rfl ?_
      refine am_ldcS (i := 1) (tx := "tep") X dX2_readHead_27 (by decide) ?_
      refine am_iconst (v := (1 : Int32)) X dX2_readHead_29 (by decide) ?_
      obtain ⟨v30, σ30, hc, h⟩ := bd2_some h
      refine am_callv_i2 X dX2_readHead_30 cw_X2_54 (ct_X2_readRest_v1 hG N _ _ _ hc) (Nat.le_of_ble_eq_true rfl) rfl rfl rfl rfl (Nat.le_of_ble_eq_true rfl) ?_
      obtain ⟨g, h⟩ := gd_some h
      obtain rfl := Option.some.inj h
      exact am_zret X h0 dX2_readHead_33 rfl (nbz_nar (nbz_eq g)) ⟨rfl, rfl⟩
  · have h := if_f h c
    refine am_aload_n X dX2_readHead_9 rfl rfl ?_
    refine am_ldcS (i := 0) (tx := "ine") X dX2_readHead_10 (by decide) ?_
    refine am_iconst (v := (0 : Int32)) X dX2_readHead_12 (by decide) ?_
    obtain ⟨v13, σ13, hc, h⟩ := bd2_some h
    refine am_callv_i2 X dX2_readHead_13 cw_X2_54 (ct_X2_readRest_v2 hG N _ _ _ hc) (Nat.le_of_ble_eq_true rfl) rfl rfl rfl rfl (Nat.le_of_ble_eq_true rfl) ?_
    obtain ⟨g, h⟩ := gd_some h
    obtain rfl := Option.some.inj h
    exact am_zret X h0 dX2_readHead_16 rfl (nbz_nar (nbz_eq g)) ⟨rfl, rfl⟩
set_option maxRecDepth 100000 in
set_option maxHeartbeats 4000000 in
theorem t_X2_takeOneOf_2b {G : Cx} (hG : am_G G) (N : Nat) (k2 : Int32 → Sg → Option (Int32 × Sg)) (hk2 : ∀ (x2 : Int32) (σ : Sg) (r : Int32 × Sg), k2 x2 σ = some r → am_Wp G mX2_takeOneOf 4 (am_qi r.1 r.2) 2 [some (.ref 6), some (.ref 103), some (.int x2)] [] σ) (x2 : Int32) (σ : Sg) (r : Int32 × Sg) (h : b_X2_takeOneOf_2b N k2 x2 σ = some r) : am_Wp G mX2_takeOneOf 4 (am_qi r.1 r.2) 2 [some (.ref 6), some (.ref 103), some (.int x2)] [] σ := by
  intro K h0 X
  unfold b_X2_takeOneOf_2b at h
  refine am_iload_n X dX2_takeOneOf_2 rfl rfl ?_
  refine am_aload_n X dX2_takeOneOf_3 rfl rfl ?_
  refine am_strlen (i := 3) (v := (5 : Int32)) X hG dX2_takeOneOf_4 cw_X2_62 ⟨by decide, rfl, by decide⟩ (Nat.le_of_ble_eq_true rfl) (Nat.le_of_ble_eq_true rfl) ?_
  refine am_icmp_ge (tgt := 30) X dX2_takeOneOf_7 (by decide) (fun c => ?_) (fun c => ?_)
  · have h := if_t h c
    refine am_iconst (v := (-1 : Int32)) X dX2_takeOneOf_30 (by decide) ?_
    obtain rfl := Option.some.inj h
    exact am_iret X h0 dX2_takeOneOf_31 rfl ⟨rfl, rfl⟩
  · have h := if_f h c
    refine am_aload_n X dX2_takeOneOf_10 rfl rfl ?_
    refine am_aload_n X dX2_takeOneOf_11 rfl rfl ?_
    refine am_iload_n X dX2_takeOneOf_12 rfl rfl ?_
    obtain ⟨g, h⟩ := gd_some h
    refine am_charAt (i := 3) X hG dX2_takeOneOf_13 cw_X2_68 ⟨by decide, rfl, rfl⟩ g (Nat.le_of_ble_eq_true rfl) (Nat.le_of_ble_eq_true rfl) ?_
    obtain ⟨v16, σ16, hc, h⟩ := bd2_some h
    refine am_callv_i1 X dX2_takeOneOf_16 cw_X2_49 (ct_X2_take hG N _ _ _ hc) (Nat.le_of_ble_eq_true rfl) rfl rfl rfl rfl (Nat.le_of_ble_eq_true rfl) ?_
    refine am_if_eq (tgt := 24) X dX2_takeOneOf_19 (by decide) (fun c => ?_) (fun c => ?_)
    · have h := if_t h c
      refine am_iinc (ls' := fun x2_24 => [some (.ref 6), some (.ref 103), some (.int x2_24)]) X dX2_takeOneOf_24 rfl h (by decide) (by decide) rfl (fun _ => rfl) (fun x2_24 h => ?_)
      refine am_goto (tgt := 2) X dX2_takeOneOf_27 (by decide) ?_
      exact am_jump (hk2 _ _ _ h K h0 X) rfl ⟨rfl, rfl, rfl, trivial⟩
    · have h := if_f h c
      refine am_iload_n X dX2_takeOneOf_22 rfl rfl ?_
      obtain rfl := Option.some.inj h
      exact am_iret X h0 dX2_takeOneOf_23 rfl ⟨rfl, rfl⟩
set_option maxRecDepth 100000 in
set_option maxHeartbeats 4000000 in
theorem t_X2_takeOneOf_2 {G : Cx} (hG : am_G G) (N : Nat) : ∀ (n : Nat) (x2 : Int32) (σ : Sg) (r : Int32 × Sg), b_X2_takeOneOf_2 N n x2 σ = some r → am_Wp G mX2_takeOneOf 4 (am_qi r.1 r.2) 2 [some (.ref 6), some (.ref 103), some (.int x2)] [] σ := by
  intro n
  induction n with
  | zero => intro x2 σ r h; cases h
  | succ n ih => intro x2 σ r h; exact t_X2_takeOneOf_2b hG N (b_X2_takeOneOf_2 N n) ih x2 σ r h
set_option maxRecDepth 100000 in
set_option maxHeartbeats 4000000 in
theorem ct_X2_takeOneOf {G : Cx} (hG : am_G G) (N : Nat) (σ : Sg) (r : Int32 × Sg) (h : f_X2_takeOneOf N σ = some r) : am_Ct G 5 yX2_takeOneOf mX2_takeOneOf [.ref 6, .ref 103] σ (am_qi r.1 r.2) := by
  refine am_enter hG rfl rfl (Nat.le_of_ble_eq_true rfl) ?_
  intro K h0 X
  unfold f_X2_takeOneOf at h
  refine am_jump (pc' := 0) (ls' := [some (.ref 6), some (.ref 103), none]) ?_ rfl ⟨rfl, rfl, trivial⟩
  refine am_iconst (v := (0 : Int32)) X dX2_takeOneOf_0 (by decide) ?_
  refine am_istore_n (ls' := [some (.ref 6), some (.ref 103), some (.int (0 : Int32))]) X dX2_takeOneOf_1 rfl (by decide)  rfl rfl ?_
  exact am_jump (t_X2_takeOneOf_2 hG N N _ _ _ h K h0 X) rfl ⟨rfl, rfl, rfl, trivial⟩
set_option maxRecDepth 100000 in
set_option maxHeartbeats 4000000 in
theorem t_X2_takeOneOf_v1_2b {G : Cx} (hG : am_G G) (N : Nat) (k2 : Int32 → Sg → Option (Int32 × Sg)) (hk2 : ∀ (x2 : Int32) (σ : Sg) (r : Int32 × Sg), k2 x2 σ = some r → am_Wp G mX2_takeOneOf 4 (am_qi r.1 r.2) 2 [some (.ref 6), some (.ref 104), some (.int x2)] [] σ) (x2 : Int32) (σ : Sg) (r : Int32 × Sg) (h : b_X2_takeOneOf_v1_2b N k2 x2 σ = some r) : am_Wp G mX2_takeOneOf 4 (am_qi r.1 r.2) 2 [some (.ref 6), some (.ref 104), some (.int x2)] [] σ := by
  intro K h0 X
  unfold b_X2_takeOneOf_v1_2b at h
  refine am_iload_n X dX2_takeOneOf_2 rfl rfl ?_
  refine am_aload_n X dX2_takeOneOf_3 rfl rfl ?_
  refine am_strlen (i := 4) (v := (3 : Int32)) X hG dX2_takeOneOf_4 cw_X2_62 ⟨by decide, rfl, by decide⟩ (Nat.le_of_ble_eq_true rfl) (Nat.le_of_ble_eq_true rfl) ?_
  refine am_icmp_ge (tgt := 30) X dX2_takeOneOf_7 (by decide) (fun c => ?_) (fun c => ?_)
  · have h := if_t h c
    refine am_iconst (v := (-1 : Int32)) X dX2_takeOneOf_30 (by decide) ?_
    obtain rfl := Option.some.inj h
    exact am_iret X h0 dX2_takeOneOf_31 rfl ⟨rfl, rfl⟩
  · have h := if_f h c
    refine am_aload_n X dX2_takeOneOf_10 rfl rfl ?_
    refine am_aload_n X dX2_takeOneOf_11 rfl rfl ?_
    refine am_iload_n X dX2_takeOneOf_12 rfl rfl ?_
    obtain ⟨g, h⟩ := gd_some h
    refine am_charAt (i := 4) X hG dX2_takeOneOf_13 cw_X2_68 ⟨by decide, rfl, rfl⟩ g (Nat.le_of_ble_eq_true rfl) (Nat.le_of_ble_eq_true rfl) ?_
    obtain ⟨v16, σ16, hc, h⟩ := bd2_some h
    refine am_callv_i1 X dX2_takeOneOf_16 cw_X2_49 (ct_X2_take hG N _ _ _ hc) (Nat.le_of_ble_eq_true rfl) rfl rfl rfl rfl (Nat.le_of_ble_eq_true rfl) ?_
    refine am_if_eq (tgt := 24) X dX2_takeOneOf_19 (by decide) (fun c => ?_) (fun c => ?_)
    · have h := if_t h c
      refine am_iinc (ls' := fun x2_24 => [some (.ref 6), some (.ref 104), some (.int x2_24)]) X dX2_takeOneOf_24 rfl h (by decide) (by decide) rfl (fun _ => rfl) (fun x2_24 h => ?_)
      refine am_goto (tgt := 2) X dX2_takeOneOf_27 (by decide) ?_
      exact am_jump (hk2 _ _ _ h K h0 X) rfl ⟨rfl, rfl, rfl, trivial⟩
    · have h := if_f h c
      refine am_iload_n X dX2_takeOneOf_22 rfl rfl ?_
      obtain rfl := Option.some.inj h
      exact am_iret X h0 dX2_takeOneOf_23 rfl ⟨rfl, rfl⟩
set_option maxRecDepth 100000 in
set_option maxHeartbeats 4000000 in
theorem t_X2_takeOneOf_v1_2 {G : Cx} (hG : am_G G) (N : Nat) : ∀ (n : Nat) (x2 : Int32) (σ : Sg) (r : Int32 × Sg), b_X2_takeOneOf_v1_2 N n x2 σ = some r → am_Wp G mX2_takeOneOf 4 (am_qi r.1 r.2) 2 [some (.ref 6), some (.ref 104), some (.int x2)] [] σ := by
  intro n
  induction n with
  | zero => intro x2 σ r h; cases h
  | succ n ih => intro x2 σ r h; exact t_X2_takeOneOf_v1_2b hG N (b_X2_takeOneOf_v1_2 N n) ih x2 σ r h
set_option maxRecDepth 100000 in
set_option maxHeartbeats 4000000 in
theorem ct_X2_takeOneOf_v1 {G : Cx} (hG : am_G G) (N : Nat) (σ : Sg) (r : Int32 × Sg) (h : f_X2_takeOneOf_v1 N σ = some r) : am_Ct G 5 yX2_takeOneOf mX2_takeOneOf [.ref 6, .ref 104] σ (am_qi r.1 r.2) := by
  refine am_enter hG rfl rfl (Nat.le_of_ble_eq_true rfl) ?_
  intro K h0 X
  unfold f_X2_takeOneOf_v1 at h
  refine am_jump (pc' := 0) (ls' := [some (.ref 6), some (.ref 104), none]) ?_ rfl ⟨rfl, rfl, trivial⟩
  refine am_iconst (v := (0 : Int32)) X dX2_takeOneOf_0 (by decide) ?_
  refine am_istore_n (ls' := [some (.ref 6), some (.ref 104), some (.int (0 : Int32))]) X dX2_takeOneOf_1 rfl (by decide)  rfl rfl ?_
  exact am_jump (t_X2_takeOneOf_v1_2 hG N N _ _ _ h K h0 X) rfl ⟨rfl, rfl, rfl, trivial⟩
set_option maxRecDepth 100000 in
set_option maxHeartbeats 4000000 in
theorem ct_X5_put {G : Cx} (hG : am_G G) (N : Nat) (x1 : Int32) (σ : Sg) (r : Sg) (h : f_X5_put N x1 σ = some r) : am_Ct G 1 yX5_put mX5_put [.ref 5, .int x1] σ (am_qv r) := by
  refine am_enter hG rfl rfl (Nat.le_of_ble_eq_true rfl) ?_
  intro K h0 X
  unfold f_X5_put at h
  refine am_jump (pc' := 0) (ls' := [some (.ref 5), some (.int x1)]) ?_ rfl ⟨rfl, rfl, trivial⟩
  refine am_aload_n X dX5_put_0 rfl rfl ?_
  refine am_getf (v := .int (rg σ 5 4)) X dX5_put_1 fl_X5_31 rfl rfl (by decide) ?_
  refine am_bipush (v := (100 : Int32)) X dX5_put_4 (by decide) ?_
  refine am_icmp_ge (tgt := 42) X dX5_put_6 (by decide) (fun c => ?_) (fun c => ?_)
  · have h := if_t h c
    obtain rfl := Option.some.inj h
    exact am_vret X h0 dX5_put_42 rfl ⟨rfl, rfl⟩
  · have h := if_f h c
    refine am_aload_n X dX5_put_9 rfl rfl ?_
    refine am_getf (v := .ref 39) X dX5_put_10 fl_X5_21 rfl rfl (by decide) ?_
    refine am_aload_n X dX5_put_13 rfl rfl ?_
    refine am_getf (v := .int (rg σ 5 4)) X dX5_put_14 fl_X5_31 rfl rfl (by decide) ?_
    refine am_iload_n X dX5_put_17 rfl rfl ?_
    obtain ⟨g, h⟩ := gd_some h
    refine am_iast X dX5_put_18 rfl g ?_
    refine am_tops h (fun σ18 h => ?_)
    refine am_aload_n X dX5_put_19 rfl rfl ?_
    refine am_dup X dX5_put_20 rfl ?_
    refine am_getf (v := .int (rg σ18 5 4)) X dX5_put_21 fl_X5_31 rfl rfl (by decide) ?_
    refine am_iconst (v := (1 : Int32)) X dX5_put_24 (by decide) ?_
    refine am_iadd X dX5_put_25 ?_
    refine am_putfi X dX5_put_26 fp_X5_31 rfl rfl ?_
    refine am_tops h (fun σ26 h => ?_)
    refine am_aload_n X dX5_put_29 rfl rfl ?_
    refine am_getf (v := .ref 38) X dX5_put_30 fl_X5_18 rfl rfl (by decide) ?_
    refine am_aload_n X dX5_put_33 rfl rfl ?_
    refine am_getf (v := .int (rg σ26 5 0)) X dX5_put_34 fl_X5_27 rfl rfl (by decide) ?_
    refine am_aload_n X dX5_put_37 rfl rfl ?_
    refine am_getf (v := .int (rg σ26 5 4)) X dX5_put_38 fl_X5_31 rfl rfl (by decide) ?_
    obtain ⟨g, h⟩ := gd_some h
    refine am_iast X dX5_put_41 rfl g ?_
    refine am_tops h (fun σ41 h => ?_)
    obtain rfl := Option.some.inj h
    exact am_vret X h0 dX5_put_42 rfl ⟨rfl, rfl⟩
set_option maxRecDepth 100000 in
set_option maxHeartbeats 4000000 in
theorem ct_X5_putTest {G : Cx} (hG : am_G G) (N : Nat) (x1 : Int32) (x2 : Int32) (x3 : Int32) (σ : Sg) (r : Sg) (h : f_X5_putTest N x1 x2 x3 σ = some r) : am_Ct G 2 yX5_putTest mX5_putTest [.ref 5, .int x1, .int x2, .int x3] σ (am_qv r) := by
  refine am_enter hG rfl rfl (Nat.le_of_ble_eq_true rfl) ?_
  intro K h0 X
  unfold f_X5_putTest at h
  refine am_jump (pc' := 0) (ls' := [some (.ref 5), some (.int x1), some (.int x2), some (.int x3)]) ?_ rfl ⟨rfl, rfl, rfl, rfl, trivial⟩
  refine am_aload_n X dX5_putTest_0 rfl rfl ?_
  refine am_iload_n X dX5_putTest_1 rfl rfl ?_
  refine am_iconst (v := (3 : Int32)) X dX5_putTest_2 (by decide) ?_
  refine am_imul X dX5_putTest_3 ?_
  refine am_iload_n X dX5_putTest_4 rfl rfl ?_
  refine am_iadd X dX5_putTest_5 ?_
  refine am_bipush (v := (100 : Int32)) X dX5_putTest_6 (by decide) ?_
  refine am_imul X dX5_putTest_8 ?_
  refine am_iload_n X dX5_putTest_9 rfl rfl ?_
  refine am_iadd X dX5_putTest_10 ?_
  obtain ⟨σ11, hc, h⟩ := bd_some h
  refine am_callv_v1 X dX5_putTest_11 cw_X5_44 (ct_X5_put hG N _ _ _ hc) (Nat.le_of_ble_eq_true rfl) rfl rfl rfl rfl (Nat.le_of_ble_eq_true rfl) ?_
  obtain rfl := Option.some.inj h
  exact am_vret X h0 dX5_putTest_14 rfl ⟨rfl, rfl⟩
set_option maxRecDepth 100000 in
set_option maxHeartbeats 4000000 in
theorem ct_X2_readTest {G : Cx} (hG : am_G G) (N : Nat) (σ : Sg) (r : Int32 × Sg) (h : f_X2_readTest N σ = some r) : am_Ct G 6 yX2_readTest mX2_readTest [.ref 6] σ (am_qi r.1 r.2) := by
  refine am_enter hG rfl rfl (Nat.le_of_ble_eq_true rfl) ?_
  intro K h0 X
  unfold f_X2_readTest at h
  refine am_jump (pc' := 0) (ls' := [some (.ref 6), none, none]) ?_ rfl ⟨rfl, trivial⟩
  refine am_aload_n X dX2_readTest_0 rfl rfl ?_
  refine am_ldcS (i := 3) (tx := "skudl") X dX2_readTest_1 (by decide) ?_
  obtain ⟨v3, σ3, hc, h⟩ := bd2_some h
  refine am_callv_i1 X dX2_readTest_3 cw_X2_97 (ct_X2_takeOneOf hG N _ _ hc) (Nat.le_of_ble_eq_true rfl) rfl rfl rfl rfl (Nat.le_of_ble_eq_true rfl) ?_
  refine am_istore_n (ls' := [some (.ref 6), some (.int v3), none]) X dX2_readTest_6 rfl (by decide)  rfl rfl ?_
  refine am_iload_n X dX2_readTest_7 rfl rfl ?_
  refine am_if_ge (tgt := 13) X dX2_readTest_8 (by decide) (fun c => ?_) (fun c => ?_)
  · have h := if_t h c
    refine am_aload_n X dX2_readTest_13 rfl rfl ?_
    refine am_ldcS (i := 4) (tx := "<=>") X dX2_readTest_14 (by decide) ?_
    obtain ⟨v16, σ16, hc, h⟩ := bd2_some h
    refine am_callv_i1 X dX2_readTest_16 cw_X2_97 (ct_X2_takeOneOf_v1 hG N _ _ hc) (Nat.le_of_ble_eq_true rfl) rfl rfl rfl rfl (Nat.le_of_ble_eq_true rfl) ?_
    refine am_istore_n (ls' := [some (.ref 6), some (.int v3), some (.int v16)]) X dX2_readTest_19 rfl (by decide)  rfl rfl ?_
    refine am_iload_n X dX2_readTest_20 rfl rfl ?_
    refine am_if_lt (tgt := 31) X dX2_readTest_21 (by decide) (fun c => ?_) (fun c => ?_)
    · have h := if_t h c
      refine am_iconst (v := (0 : Int32)) X dX2_readTest_31 (by decide) ?_
      obtain rfl := Option.some.inj h
      exact am_zret X h0 dX2_readTest_32 rfl (by decide) ⟨rfl, rfl⟩
    · have h := if_f h c
      refine am_aload_n X dX2_readTest_24 rfl rfl ?_
      obtain ⟨v25, σ25, hc, h⟩ := bd2_some h
      refine am_callv_i0 X dX2_readTest_25 cw_X2_72 (ct_X2_readNumber hG N _ _ hc) (Nat.le_of_ble_eq_true rfl) rfl rfl rfl rfl (Nat.le_of_ble_eq_true rfl) ?_
      refine am_if_ne (tgt := 33) X dX2_readTest_28 (by decide) (fun c => ?_) (fun c => ?_)
      · have h := if_f h c
        refine am_aload_n X dX2_readTest_33 rfl rfl ?_
        refine am_getf (v := .ref 5) X dX2_readTest_34 fl_X2_18 rfl rfl (by decide) ?_
        refine am_iload_n X dX2_readTest_37 rfl rfl ?_
        refine am_iload_n X dX2_readTest_38 rfl rfl ?_
        refine am_aload_n X dX2_readTest_39 rfl rfl ?_
        refine am_getf (v := .int (rg σ25 6 4)) X dX2_readTest_40 fl_X2_75 rfl rfl (by decide) ?_
        obtain ⟨σ43, hc, h⟩ := bd_some h
        refine am_callv_v3 X dX2_readTest_43 cw_X2_103 (ct_X5_putTest hG N _ _ _ _ _ hc) (Nat.le_of_ble_eq_true rfl) rfl rfl rfl rfl (Nat.le_of_ble_eq_true rfl) ?_
        refine am_iconst (v := (1 : Int32)) X dX2_readTest_46 (by decide) ?_
        obtain rfl := Option.some.inj h
        exact am_zret X h0 dX2_readTest_47 rfl (by decide) ⟨rfl, rfl⟩
      · have h := if_t h c
        refine am_iconst (v := (0 : Int32)) X dX2_readTest_31 (by decide) ?_
        obtain rfl := Option.some.inj h
        exact am_zret X h0 dX2_readTest_32 rfl (by decide) ⟨rfl, rfl⟩
  · have h := if_f h c
    refine am_iconst (v := (0 : Int32)) X dX2_readTest_11 (by decide) ?_
    obtain rfl := Option.some.inj h
    exact am_zret X h0 dX2_readTest_12 rfl (by decide) ⟨rfl, rfl⟩
set_option maxRecDepth 100000 in
set_option maxHeartbeats 4000000 in
theorem t_X2_readPart_72b {G : Cx} (hG : am_G G) (N : Nat) (dk : Nat) (hdk : 10 ≤ dk) (kr : Int32 → Sg → Option (Int32 × Sg)) (hkr : ∀ (x1 : Int32) (σ : Sg) (r : Int32 × Sg), kr x1 σ = some r → am_Ct G dk yX2_readEither mX2_readEither [.ref 6, .int x1] σ (am_qi r.1 r.2)) (k72 : Int32 → Int32 → Int32 → Sg → Option (Int32 × Sg)) (hk72 : ∀ (x2 : Int32) (x3 : Int32) (x4 : Int32) (σ : Sg) (r : Int32 × Sg), k72 x2 x3 x4 σ = some r → am_Wp G mX2_readPart dk (am_qi r.1 r.2) 72 [some (.ref 6), none, some (.int x2), some (.int x3), some (.int x4)] [] σ) (x2 : Int32) (x3 : Int32) (x4 : Int32) (σ : Sg) (r : Int32 × Sg) (h : b_X2_readPart_72b N kr k72 x2 x3 x4 σ = some r) : am_Wp G mX2_readPart dk (am_qi r.1 r.2) 72 [some (.ref 6), none, some (.int x2), some (.int x3), some (.int x4)] [] σ := by
  intro K h0 X
  unfold b_X2_readPart_72b at h
  refine am_iload X dX2_readPart_72 rfl ?_
  refine am_iload_n X dX2_readPart_74 rfl rfl ?_
  refine am_icmp_ge (tgt := 92) X dX2_readPart_75 (by decide) (fun c => ?_) (fun c => ?_)
  · have h := if_t h c
    refine am_iload_n X dX2_readPart_92 rfl rfl ?_
    obtain ⟨g, h⟩ := gd_some h
    obtain rfl := Option.some.inj h
    exact am_zret X h0 dX2_readPart_93 rfl (nbz_nar (nbz_eq g)) ⟨rfl, rfl⟩
  · have h := if_f h c
    refine am_aload_n X dX2_readPart_78 rfl rfl ?_
    refine am_getf (v := .ref 5) X dX2_readPart_79 fl_X2_18 rfl rfl (by decide) ?_
    refine am_iconst (v := (-1 : Int32)) X dX2_readPart_82 (by decide) ?_
    obtain ⟨σ83, hc, h⟩ := bd_some h
    refine am_callv_v1 X dX2_readPart_83 cw_X2_85 (ct_X5_put hG N _ _ _ hc) (by omega) rfl rfl rfl rfl (Nat.le_of_ble_eq_true rfl) ?_
    refine am_iinc (ls' := fun x4_86 => [some (.ref 6), none, some (.int x2), some (.int x3), some (.int x4_86)]) X dX2_readPart_86 rfl h (by decide) (by decide) rfl (fun _ => rfl) (fun x4_86 h => ?_)
    refine am_goto (tgt := 72) X dX2_readPart_89 (by decide) ?_
    exact am_jump (hk72 _ _ _ _ _ h K h0 X) rfl ⟨rfl, rfl, rfl, rfl, trivial⟩
set_option maxRecDepth 100000 in
set_option maxHeartbeats 4000000 in
theorem t_X2_readPart_72 {G : Cx} (hG : am_G G) (N : Nat) (dk : Nat) (hdk : 10 ≤ dk) (kr : Int32 → Sg → Option (Int32 × Sg)) (hkr : ∀ (x1 : Int32) (σ : Sg) (r : Int32 × Sg), kr x1 σ = some r → am_Ct G dk yX2_readEither mX2_readEither [.ref 6, .int x1] σ (am_qi r.1 r.2)) : ∀ (n : Nat) (x2 : Int32) (x3 : Int32) (x4 : Int32) (σ : Sg) (r : Int32 × Sg), b_X2_readPart_72 N kr n x2 x3 x4 σ = some r → am_Wp G mX2_readPart dk (am_qi r.1 r.2) 72 [some (.ref 6), none, some (.int x2), some (.int x3), some (.int x4)] [] σ := by
  intro n
  induction n with
  | zero => intro x2 x3 x4 σ r h; cases h
  | succ n ih => intro x2 x3 x4 σ r h; exact t_X2_readPart_72b hG N dk hdk kr hkr (b_X2_readPart_72 N kr n) ih x2 x3 x4 σ r h
set_option maxRecDepth 100000 in
set_option maxHeartbeats 4000000 in
theorem t_X2_readPart_69 {G : Cx} (hG : am_G G) (N : Nat) (dk : Nat) (hdk : 10 ≤ dk) (kr : Int32 → Sg → Option (Int32 × Sg)) (hkr : ∀ (x1 : Int32) (σ : Sg) (r : Int32 × Sg), kr x1 σ = some r → am_Ct G dk yX2_readEither mX2_readEither [.ref 6, .int x1] σ (am_qi r.1 r.2)) (x1 : Int32) (x2 : Int32) (x3 : Int32) (σ : Sg) (r : Int32 × Sg) (h : b_X2_readPart_69 N kr x1 x2 x3 σ = some r) : am_Wp G mX2_readPart dk (am_qi r.1 r.2) 69 [some (.ref 6), some (.int x1), some (.int x2), some (.int x3), none] [] σ := by
  intro K h0 X
  unfold b_X2_readPart_69 at h
  refine am_iload_n X dX2_readPart_69 rfl rfl ?_
  refine am_istore (ls' := [some (.ref 6), some (.int x1), some (.int x2), some (.int x3), some (.int x1)]) X dX2_readPart_70 (by decide)  rfl rfl ?_
  exact am_jump (t_X2_readPart_72 hG N dk hdk kr hkr N _ _ _ _ _ h K h0 X) rfl ⟨rfl, rfl, rfl, rfl, trivial⟩
set_option maxRecDepth 100000 in
set_option maxHeartbeats 4000000 in
theorem t_X2_readPart_64 {G : Cx} (hG : am_G G) (N : Nat) (dk : Nat) (hdk : 10 ≤ dk) (kr : Int32 → Sg → Option (Int32 × Sg)) (hkr : ∀ (x1 : Int32) (σ : Sg) (r : Int32 × Sg), kr x1 σ = some r → am_Ct G dk yX2_readEither mX2_readEither [.ref 6, .int x1] σ (am_qi r.1 r.2)) (x1 : Int32) (x2 : Int32) (σ : Sg) (r : Int32 × Sg) (h : b_X2_readPart_64 N kr x1 x2 σ = some r) : am_Wp G mX2_readPart dk (am_qi r.1 r.2) 64 [some (.ref 6), some (.int x1), some (.int x2), none, none] [] σ := by
  intro K h0 X
  unfold b_X2_readPart_64 at h
  refine am_aload_n X dX2_readPart_64 rfl rfl ?_
  obtain ⟨v65, σ65, hc, h⟩ := bd2_some h
  refine am_callv_i0 X dX2_readPart_65 cw_X2_92 (ct_X2_readTest hG N _ _ hc) (by omega) rfl rfl rfl rfl (Nat.le_of_ble_eq_true rfl) ?_
  refine am_istore_n (ls' := [some (.ref 6), some (.int x1), some (.int x2), some (.int v65), none]) X dX2_readPart_68 rfl (by decide)  rfl rfl ?_
  exact am_jump (t_X2_readPart_69 hG N dk hdk kr hkr _ _ _ _ _ h K h0 X) rfl ⟨rfl, rfl, rfl, rfl, trivial⟩
set_option maxRecDepth 100000 in
set_option maxHeartbeats 4000000 in
theorem t_X2_readPart_60 {G : Cx} (hG : am_G G) (N : Nat) (dk : Nat) (hdk : 10 ≤ dk) (kr : Int32 → Sg → Option (Int32 × Sg)) (hkr : ∀ (x1 : Int32) (σ : Sg) (r : Int32 × Sg), kr x1 σ = some r → am_Ct G dk yX2_readEither mX2_readEither [.ref 6, .int x1] σ (am_qi r.1 r.2)) (x1 : Int32) (x2 : Int32) (s0 : Int32) (σ : Sg) (r : Int32 × Sg) (h : b_X2_readPart_60 N kr x1 x2 s0 σ = some r) : am_Wp G mX2_readPart dk (am_qi r.1 r.2) 60 [some (.ref 6), some (.int x1), some (.int x2), none, none] [.int s0] σ := by
  intro K h0 X
  unfold b_X2_readPart_60 at h
  refine am_istore_n (ls' := [some (.ref 6), some (.int x1), some (.int x2), some (.int s0), none]) X dX2_readPart_60 rfl (by decide)  rfl rfl ?_
  refine am_goto (tgt := 69) X dX2_readPart_61 (by decide) ?_
  exact am_jump (t_X2_readPart_69 hG N dk hdk kr hkr _ _ _ _ _ h K h0 X) rfl ⟨rfl, rfl, rfl, rfl, trivial⟩
set_option maxRecDepth 100000 in
set_option maxHeartbeats 4000000 in
theorem t_X2_readPart_59 {G : Cx} (hG : am_G G) (N : Nat) (dk : Nat) (hdk : 10 ≤ dk) (kr : Int32 → Sg → Option (Int32 × Sg)) (hkr : ∀ (x1 : Int32) (σ : Sg) (r : Int32 × Sg), kr x1 σ = some r → am_Ct G dk yX2_readEither mX2_readEither [.ref 6, .int x1] σ (am_qi r.1 r.2)) (x1 : Int32) (x2 : Int32) (σ : Sg) (r : Int32 × Sg) (h : b_X2_readPart_59 N kr x1 x2 σ = some r) : am_Wp G mX2_readPart dk (am_qi r.1 r.2) 59 [some (.ref 6), some (.int x1), some (.int x2), none, none] [] σ := by
  intro K h0 X
  unfold b_X2_readPart_59 at h
  refine am_iconst (v := (0 : Int32)) X dX2_readPart_59 (by decide) ?_
  exact am_jump (t_X2_readPart_60 hG N dk hdk kr hkr _ _ _ _ _ h K h0 X) rfl ⟨rfl, rfl, rfl, trivial⟩
set_option maxRecDepth 100000 in
set_option maxHeartbeats 4000000 in
theorem t_X2_readPart_22 {G : Cx} (hG : am_G G) (N : Nat) (dk : Nat) (hdk : 10 ≤ dk) (kr : Int32 → Sg → Option (Int32 × Sg)) (hkr : ∀ (x1 : Int32) (σ : Sg) (r : Int32 × Sg), kr x1 σ = some r → am_Ct G dk yX2_readEither mX2_readEither [.ref 6, .int x1] σ (am_qi r.1 r.2)) (x1 : Int32) (x2 : Int32) (σ : Sg) (r : Int32 × Sg) (h : b_X2_readPart_22 N kr x1 x2 σ = some r) : am_Wp G mX2_readPart dk (am_qi r.1 r.2) 22 [some (.ref 6), some (.int x1), some (.int x2), none, none] [] σ := by
  intro K h0 X
  unfold b_X2_readPart_22 at h
  refine am_iload_n X dX2_readPart_22 rfl rfl ?_
  refine am_iconst (v := (5 : Int32)) X dX2_readPart_23 (by decide) ?_
  refine am_icmp_ge (tgt := 64) X dX2_readPart_24 (by decide) (fun c => ?_) (fun c => ?_)
  · have h := if_t h c
    exact am_jump (t_X2_readPart_64 hG N dk hdk kr hkr _ _ _ _ h K h0 X) rfl ⟨rfl, rfl, rfl, trivial⟩
  · have h := if_f h c
    refine am_aload_n X dX2_readPart_27 rfl rfl ?_
    refine am_bipush (v := (40 : Int32)) X dX2_readPart_28 (by decide) ?_
    obtain ⟨v30, σ30, hc, h⟩ := bd2_some h
    refine am_callv_i1 X dX2_readPart_30 cw_X2_49 (ct_X2_take hG N _ _ _ hc) (by omega) rfl rfl rfl rfl (Nat.le_of_ble_eq_true rfl) ?_
    refine am_if_eq (tgt := 64) X dX2_readPart_33 (by decide) (fun c => ?_) (fun c => ?_)
    · have h := if_t h c
      exact am_jump (t_X2_readPart_64 hG N dk hdk kr hkr _ _ _ _ h K h0 X) rfl ⟨rfl, rfl, rfl, trivial⟩
    · have h := if_f h c
      refine am_aload_n X dX2_readPart_36 rfl rfl ?_
      refine am_iload_n X dX2_readPart_37 rfl rfl ?_
      refine am_iconst (v := (1 : Int32)) X dX2_readPart_38 (by decide) ?_
      refine am_iadd X dX2_readPart_39 ?_
      obtain ⟨v40, σ40, hc, h⟩ := bd2_some h
      refine am_callv_i1 X dX2_readPart_40 cw_X2_42 (hkr _ _ _ hc) (by omega) rfl rfl rfl rfl (Nat.le_of_ble_eq_true rfl) ?_
      refine am_if_eq (tgt := 59) X dX2_readPart_43 (by decide) (fun c => ?_) (fun c => ?_)
      · have h := if_t h c
        exact am_jump (t_X2_readPart_59 hG N dk hdk kr hkr _ _ _ _ h K h0 X) rfl ⟨rfl, rfl, rfl, trivial⟩
      · have h := if_f h c
        refine am_aload_n X dX2_readPart_46 rfl rfl ?_
        refine am_bipush (v := (41 : Int32)) X dX2_readPart_47 (by decide) ?_
        obtain ⟨v49, σ49, hc, h⟩ := bd2_some h
        refine am_callv_i1 X dX2_readPart_49 cw_X2_49 (ct_X2_take hG N _ _ _ hc) (by omega) rfl rfl rfl rfl (Nat.le_of_ble_eq_true rfl) ?_
        refine am_if_eq (tgt := 59) X dX2_readPart_52 (by decide) (fun c => ?_) (fun c => ?_)
        · have h := if_t h c
          exact am_jump (t_X2_readPart_59 hG N dk hdk kr hkr _ _ _ _ h K h0 X) rfl ⟨rfl, rfl, rfl, trivial⟩
        · have h := if_f h c
          refine am_iconst (v := (1 : Int32)) X dX2_readPart_55 (by decide) ?_
          refine am_goto (tgt := 60) X dX2_readPart_56 (by decide) ?_
          exact am_jump (t_X2_readPart_60 hG N dk hdk kr hkr _ _ _ _ _ h K h0 X) rfl ⟨rfl, rfl, rfl, trivial⟩
set_option maxRecDepth 100000 in
set_option maxHeartbeats 4000000 in
theorem t_X2_readPart_2b {G : Cx} (hG : am_G G) (N : Nat) (dk : Nat) (hdk : 10 ≤ dk) (kr : Int32 → Sg → Option (Int32 × Sg)) (hkr : ∀ (x1 : Int32) (σ : Sg) (r : Int32 × Sg), kr x1 σ = some r → am_Ct G dk yX2_readEither mX2_readEither [.ref 6, .int x1] σ (am_qi r.1 r.2)) (k2 : Int32 → Int32 → Sg → Option (Int32 × Sg)) (hk2 : ∀ (x1 : Int32) (x2 : Int32) (σ : Sg) (r : Int32 × Sg), k2 x1 x2 σ = some r → am_Wp G mX2_readPart dk (am_qi r.1 r.2) 2 [some (.ref 6), some (.int x1), some (.int x2), none, none] [] σ) (x1 : Int32) (x2 : Int32) (σ : Sg) (r : Int32 × Sg) (h : b_X2_readPart_2b N kr k2 x1 x2 σ = some r) : am_Wp G mX2_readPart dk (am_qi r.1 r.2) 2 [some (.ref 6), some (.int x1), some (.int x2), none, none] [] σ := by
  intro K h0 X
  unfold b_X2_readPart_2b at h
  refine am_iload_n X dX2_readPart_2 rfl rfl ?_
  refine am_iconst (v := (5 : Int32)) X dX2_readPart_3 (by decide) ?_
  refine am_icmp_ge (tgt := 22) X dX2_readPart_4 (by decide) (fun c => ?_) (fun c => ?_)
  · have h := if_t h c
    exact am_jump (t_X2_readPart_22 hG N dk hdk kr hkr _ _ _ _ h K h0 X) rfl ⟨rfl, rfl, rfl, trivial⟩
  · have h := if_f h c
    refine am_aload_n X dX2_readPart_7 rfl rfl ?_
    refine am_bipush (v := (33 : Int32)) X dX2_readPart_8 (by decide) ?_
    obtain ⟨v10, σ10, hc, h⟩ := bd2_some h
    refine am_callv_i1 X dX2_readPart_10 cw_X2_49 (ct_X2_take hG N _ _ _ hc) (by omega) rfl rfl rfl rfl (Nat.le_of_ble_eq_true rfl) ?_
    refine am_if_eq (tgt := 22) X dX2_readPart_13 (by decide) (fun c => ?_) (fun c => ?_)
    · have h := if_t h c
      exact am_jump (t_X2_readPart_22 hG N dk hdk kr hkr _ _ _ _ h K h0 X) rfl ⟨rfl, rfl, rfl, trivial⟩
    · have h := if_f h c
      refine am_iinc (ls' := fun x2_16 => [some (.ref 6), some (.int x1), some (.int x2_16), none, none]) X dX2_readPart_16 rfl h (by decide) (by decide) rfl (fun _ => rfl) (fun x2_16 h => ?_)
      refine am_goto (tgt := 2) X dX2_readPart_19 (by decide) ?_
      exact am_jump (hk2 _ _ _ _ h K h0 X) rfl ⟨rfl, rfl, rfl, trivial⟩
set_option maxRecDepth 100000 in
set_option maxHeartbeats 4000000 in
theorem t_X2_readPart_2 {G : Cx} (hG : am_G G) (N : Nat) (dk : Nat) (hdk : 10 ≤ dk) (kr : Int32 → Sg → Option (Int32 × Sg)) (hkr : ∀ (x1 : Int32) (σ : Sg) (r : Int32 × Sg), kr x1 σ = some r → am_Ct G dk yX2_readEither mX2_readEither [.ref 6, .int x1] σ (am_qi r.1 r.2)) : ∀ (n : Nat) (x1 : Int32) (x2 : Int32) (σ : Sg) (r : Int32 × Sg), b_X2_readPart_2 N kr n x1 x2 σ = some r → am_Wp G mX2_readPart dk (am_qi r.1 r.2) 2 [some (.ref 6), some (.int x1), some (.int x2), none, none] [] σ := by
  intro n
  induction n with
  | zero => intro x1 x2 σ r h; cases h
  | succ n ih => intro x1 x2 σ r h; exact t_X2_readPart_2b hG N dk hdk kr hkr (b_X2_readPart_2 N kr n) ih x1 x2 σ r h
set_option maxRecDepth 100000 in
set_option maxHeartbeats 4000000 in
theorem ct_X2_readPart {G : Cx} (hG : am_G G) (N : Nat) (dk : Nat) (hdk : 10 ≤ dk) (kr : Int32 → Sg → Option (Int32 × Sg)) (hkr : ∀ (x1 : Int32) (σ : Sg) (r : Int32 × Sg), kr x1 σ = some r → am_Ct G dk yX2_readEither mX2_readEither [.ref 6, .int x1] σ (am_qi r.1 r.2)) (x1 : Int32) (σ : Sg) (r : Int32 × Sg) (h : f_X2_readPart N kr x1 σ = some r) : am_Ct G (dk + 1) yX2_readPart mX2_readPart [.ref 6, .int x1] σ (am_qi r.1 r.2) := by
  refine am_enter hG rfl rfl (Nat.le_of_ble_eq_true rfl) ?_
  intro K h0 X
  unfold f_X2_readPart at h
  refine am_jump (pc' := 0) (ls' := [some (.ref 6), some (.int x1), none, none, none]) ?_ rfl ⟨rfl, rfl, trivial⟩
  refine am_iload_n X dX2_readPart_0 rfl rfl ?_
  refine am_istore_n (ls' := [some (.ref 6), some (.int x1), some (.int x1), none, none]) X dX2_readPart_1 rfl (by decide)  rfl rfl ?_
  exact am_jump (t_X2_readPart_2 hG N dk hdk kr hkr N _ _ _ _ h K h0 X) rfl ⟨rfl, rfl, rfl, trivial⟩
set_option maxRecDepth 100000 in
set_option maxHeartbeats 4000000 in
theorem t_X2_readBoth_12b {G : Cx} (hG : am_G G) (N : Nat) (dk : Nat) (hdk : 10 ≤ dk) (kr : Int32 → Sg → Option (Int32 × Sg)) (hkr : ∀ (x1 : Int32) (σ : Sg) (r : Int32 × Sg), kr x1 σ = some r → am_Ct G dk yX2_readEither mX2_readEither [.ref 6, .int x1] σ (am_qi r.1 r.2)) (k12 : Int32 → Int32 → Sg → Option (Int32 × Sg)) (hk12 : ∀ (x1 : Int32) (x2 : Int32) (σ : Sg) (r : Int32 × Sg), k12 x1 x2 σ = some r → am_Wp G mX2_readBoth (dk + 1) (am_qi r.1 r.2) 12 [some (.ref 6), some (.int x1), some (.int x2)] [] σ) (x1 : Int32) (x2 : Int32) (σ : Sg) (r : Int32 × Sg) (h : b_X2_readBoth_12b N kr k12 x1 x2 σ = some r) : am_Wp G mX2_readBoth (dk + 1) (am_qi r.1 r.2) 12 [some (.ref 6), some (.int x1), some (.int x2)] [] σ := by
  intro K h0 X
  unfold b_X2_readBoth_12b at h
  refine am_iload_n X dX2_readBoth_12 rfl rfl ?_
  refine am_bipush (v := (100 : Int32)) X dX2_readBoth_13 (by decide) ?_
  refine am_icmp_ge (tgt := 52) X dX2_readBoth_15 (by decide) (fun c => ?_) (fun c => ?_)
  · have h := if_t h c
    refine am_iconst (v := (1 : Int32)) X dX2_readBoth_52 (by decide) ?_
    obtain rfl := Option.some.inj h
    exact am_zret X h0 dX2_readBoth_53 rfl (by decide) ⟨rfl, rfl⟩
  · have h := if_f h c
    refine am_aload_n X dX2_readBoth_18 rfl rfl ?_
    refine am_bipush (v := (38 : Int32)) X dX2_readBoth_19 (by decide) ?_
    obtain ⟨v21, σ21, hc, h⟩ := bd2_some h
    refine am_callv_i1 X dX2_readBoth_21 cw_X2_49 (ct_X2_take hG N _ _ _ hc) (by omega) rfl rfl rfl rfl (Nat.le_of_ble_eq_true rfl) ?_
    refine am_if_eq (tgt := 52) X dX2_readBoth_24 (by decide) (fun c => ?_) (fun c => ?_)
    · have h := if_t h c
      refine am_iconst (v := (1 : Int32)) X dX2_readBoth_52 (by decide) ?_
      obtain rfl := Option.some.inj h
      exact am_zret X h0 dX2_readBoth_53 rfl (by decide) ⟨rfl, rfl⟩
    · have h := if_f h c
      refine am_aload_n X dX2_readBoth_27 rfl rfl ?_
      refine am_iload_n X dX2_readBoth_28 rfl rfl ?_
      obtain ⟨v29, σ29, hc, h⟩ := bd2_some h
      refine am_callv_i1 X dX2_readBoth_29 cw_X2_89 (ct_X2_readPart hG N dk hdk kr hkr _ _ _ hc) (by omega) rfl rfl rfl rfl (Nat.le_of_ble_eq_true rfl) ?_
      refine am_if_ne (tgt := 37) X dX2_readBoth_32 (by decide) (fun c => ?_) (fun c => ?_)
      · have h := if_f h c
        refine am_aload_n X dX2_readBoth_37 rfl rfl ?_
        refine am_getf (v := .ref 5) X dX2_readBoth_38 fl_X2_18 rfl rfl (by decide) ?_
        refine am_bipush (v := (-2 : Int32)) X dX2_readBoth_41 (by decide) ?_
        obtain ⟨σ43, hc, h⟩ := bd_some h
        refine am_callv_v1 X dX2_readBoth_43 cw_X2_85 (ct_X5_put hG N _ _ _ hc) (by omega) rfl rfl rfl rfl (Nat.le_of_ble_eq_true rfl) ?_
        refine am_iinc (ls' := fun x2_46 => [some (.ref 6), some (.int x1), some (.int x2_46)]) X dX2_readBoth_46 rfl h (by decide) (by decide) rfl (fun _ => rfl) (fun x2_46 h => ?_)
        refine am_goto (tgt := 12) X dX2_readBoth_49 (by decide) ?_
        exact am_jump (hk12 _ _ _ _ h K h0 X) rfl ⟨rfl, rfl, rfl, trivial⟩
      · have h := if_t h c
        refine am_iconst (v := (0 : Int32)) X dX2_readBoth_35 (by decide) ?_
        obtain rfl := Option.some.inj h
        exact am_zret X h0 dX2_readBoth_36 rfl (by decide) ⟨rfl, rfl⟩
set_option maxRecDepth 100000 in
set_option maxHeartbeats 4000000 in
theorem t_X2_readBoth_12 {G : Cx} (hG : am_G G) (N : Nat) (dk : Nat) (hdk : 10 ≤ dk) (kr : Int32 → Sg → Option (Int32 × Sg)) (hkr : ∀ (x1 : Int32) (σ : Sg) (r : Int32 × Sg), kr x1 σ = some r → am_Ct G dk yX2_readEither mX2_readEither [.ref 6, .int x1] σ (am_qi r.1 r.2)) : ∀ (n : Nat) (x1 : Int32) (x2 : Int32) (σ : Sg) (r : Int32 × Sg), b_X2_readBoth_12 N kr n x1 x2 σ = some r → am_Wp G mX2_readBoth (dk + 1) (am_qi r.1 r.2) 12 [some (.ref 6), some (.int x1), some (.int x2)] [] σ := by
  intro n
  induction n with
  | zero => intro x1 x2 σ r h; cases h
  | succ n ih => intro x1 x2 σ r h; exact t_X2_readBoth_12b hG N dk hdk kr hkr (b_X2_readBoth_12 N kr n) ih x1 x2 σ r h
set_option maxRecDepth 100000 in
set_option maxHeartbeats 4000000 in
theorem ct_X2_readBoth {G : Cx} (hG : am_G G) (N : Nat) (dk : Nat) (hdk : 10 ≤ dk) (kr : Int32 → Sg → Option (Int32 × Sg)) (hkr : ∀ (x1 : Int32) (σ : Sg) (r : Int32 × Sg), kr x1 σ = some r → am_Ct G dk yX2_readEither mX2_readEither [.ref 6, .int x1] σ (am_qi r.1 r.2)) (x1 : Int32) (σ : Sg) (r : Int32 × Sg) (h : f_X2_readBoth N kr x1 σ = some r) : am_Ct G (dk + 2) yX2_readBoth mX2_readBoth [.ref 6, .int x1] σ (am_qi r.1 r.2) := by
  refine am_enter hG rfl rfl (Nat.le_of_ble_eq_true rfl) ?_
  intro K h0 X
  unfold f_X2_readBoth at h
  refine am_jump (pc' := 0) (ls' := [some (.ref 6), some (.int x1), none]) ?_ rfl ⟨rfl, rfl, trivial⟩
  refine am_aload_n X dX2_readBoth_0 rfl rfl ?_
  refine am_iload_n X dX2_readBoth_1 rfl rfl ?_
  obtain ⟨v2, σ2, hc, h⟩ := bd2_some h
  refine am_callv_i1 X dX2_readBoth_2 cw_X2_89 (ct_X2_readPart hG N dk hdk kr hkr _ _ _ hc) (by omega) rfl rfl rfl rfl (Nat.le_of_ble_eq_true rfl) ?_
  refine am_if_ne (tgt := 10) X dX2_readBoth_5 (by decide) (fun c => ?_) (fun c => ?_)
  · have h := if_f h c
    refine am_iconst (v := (0 : Int32)) X dX2_readBoth_10 (by decide) ?_
    refine am_istore_n (ls' := [some (.ref 6), some (.int x1), some (.int (0 : Int32))]) X dX2_readBoth_11 rfl (by decide)  rfl rfl ?_
    exact am_jump (t_X2_readBoth_12 hG N dk hdk kr hkr N _ _ _ _ h K h0 X) rfl ⟨rfl, rfl, rfl, trivial⟩
  · have h := if_t h c
    refine am_iconst (v := (0 : Int32)) X dX2_readBoth_8 (by decide) ?_
    obtain rfl := Option.some.inj h
    exact am_zret X h0 dX2_readBoth_9 rfl (by decide) ⟨rfl, rfl⟩
set_option maxRecDepth 100000 in
set_option maxHeartbeats 4000000 in
theorem t_X2_readEither_12b {G : Cx} (hG : am_G G) (N : Nat) (dk : Nat) (hdk : 10 ≤ dk) (kr : Int32 → Sg → Option (Int32 × Sg)) (hkr : ∀ (x1 : Int32) (σ : Sg) (r : Int32 × Sg), kr x1 σ = some r → am_Ct G dk yX2_readEither mX2_readEither [.ref 6, .int x1] σ (am_qi r.1 r.2)) (k12 : Int32 → Int32 → Sg → Option (Int32 × Sg)) (hk12 : ∀ (x1 : Int32) (x2 : Int32) (σ : Sg) (r : Int32 × Sg), k12 x1 x2 σ = some r → am_Wp G mX2_readEither (dk + 2) (am_qi r.1 r.2) 12 [some (.ref 6), some (.int x1), some (.int x2)] [] σ) (x1 : Int32) (x2 : Int32) (σ : Sg) (r : Int32 × Sg) (h : b_X2_readEither_12b N kr k12 x1 x2 σ = some r) : am_Wp G mX2_readEither (dk + 2) (am_qi r.1 r.2) 12 [some (.ref 6), some (.int x1), some (.int x2)] [] σ := by
  intro K h0 X
  unfold b_X2_readEither_12b at h
  refine am_iload_n X dX2_readEither_12 rfl rfl ?_
  refine am_bipush (v := (100 : Int32)) X dX2_readEither_13 (by decide) ?_
  refine am_icmp_ge (tgt := 52) X dX2_readEither_15 (by decide) (fun c => ?_) (fun c => ?_)
  · have h := if_t h c
    refine am_iconst (v := (1 : Int32)) X dX2_readEither_52 (by decide) ?_
    obtain rfl := Option.some.inj h
    exact am_zret X h0 dX2_readEither_53 rfl (by decide) ⟨rfl, rfl⟩
  · have h := if_f h c
    refine am_aload_n X dX2_readEither_18 rfl rfl ?_
    refine am_bipush (v := (124 : Int32)) X dX2_readEither_19 (by decide) ?_
    obtain ⟨v21, σ21, hc, h⟩ := bd2_some h
    refine am_callv_i1 X dX2_readEither_21 cw_X2_49 (ct_X2_take hG N _ _ _ hc) (by omega) rfl rfl rfl rfl (Nat.le_of_ble_eq_true rfl) ?_
    refine am_if_eq (tgt := 52) X dX2_readEither_24 (by decide) (fun c => ?_) (fun c => ?_)
    · have h := if_t h c
      refine am_iconst (v := (1 : Int32)) X dX2_readEither_52 (by decide) ?_
      obtain rfl := Option.some.inj h
      exact am_zret X h0 dX2_readEither_53 rfl (by decide) ⟨rfl, rfl⟩
    · have h := if_f h c
      refine am_aload_n X dX2_readEither_27 rfl rfl ?_
      refine am_iload_n X dX2_readEither_28 rfl rfl ?_
      obtain ⟨v29, σ29, hc, h⟩ := bd2_some h
      refine am_callv_i1 X dX2_readEither_29 cw_X2_82 (ct_X2_readBoth hG N dk hdk kr hkr _ _ _ hc) (by omega) rfl rfl rfl rfl (Nat.le_of_ble_eq_true rfl) ?_
      refine am_if_ne (tgt := 37) X dX2_readEither_32 (by decide) (fun c => ?_) (fun c => ?_)
      · have h := if_f h c
        refine am_aload_n X dX2_readEither_37 rfl rfl ?_
        refine am_getf (v := .ref 5) X dX2_readEither_38 fl_X2_18 rfl rfl (by decide) ?_
        refine am_bipush (v := (-3 : Int32)) X dX2_readEither_41 (by decide) ?_
        obtain ⟨σ43, hc, h⟩ := bd_some h
        refine am_callv_v1 X dX2_readEither_43 cw_X2_85 (ct_X5_put hG N _ _ _ hc) (by omega) rfl rfl rfl rfl (Nat.le_of_ble_eq_true rfl) ?_
        refine am_iinc (ls' := fun x2_46 => [some (.ref 6), some (.int x1), some (.int x2_46)]) X dX2_readEither_46 rfl h (by decide) (by decide) rfl (fun _ => rfl) (fun x2_46 h => ?_)
        refine am_goto (tgt := 12) X dX2_readEither_49 (by decide) ?_
        exact am_jump (hk12 _ _ _ _ h K h0 X) rfl ⟨rfl, rfl, rfl, trivial⟩
      · have h := if_t h c
        refine am_iconst (v := (0 : Int32)) X dX2_readEither_35 (by decide) ?_
        obtain rfl := Option.some.inj h
        exact am_zret X h0 dX2_readEither_36 rfl (by decide) ⟨rfl, rfl⟩
set_option maxRecDepth 100000 in
set_option maxHeartbeats 4000000 in
theorem t_X2_readEither_12 {G : Cx} (hG : am_G G) (N : Nat) (dk : Nat) (hdk : 10 ≤ dk) (kr : Int32 → Sg → Option (Int32 × Sg)) (hkr : ∀ (x1 : Int32) (σ : Sg) (r : Int32 × Sg), kr x1 σ = some r → am_Ct G dk yX2_readEither mX2_readEither [.ref 6, .int x1] σ (am_qi r.1 r.2)) : ∀ (n : Nat) (x1 : Int32) (x2 : Int32) (σ : Sg) (r : Int32 × Sg), b_X2_readEither_12 N kr n x1 x2 σ = some r → am_Wp G mX2_readEither (dk + 2) (am_qi r.1 r.2) 12 [some (.ref 6), some (.int x1), some (.int x2)] [] σ := by
  intro n
  induction n with
  | zero => intro x1 x2 σ r h; cases h
  | succ n ih => intro x1 x2 σ r h; exact t_X2_readEither_12b hG N dk hdk kr hkr (b_X2_readEither_12 N kr n) ih x1 x2 σ r h
set_option maxRecDepth 100000 in
set_option maxHeartbeats 4000000 in
theorem ct_X2_readEither_b {G : Cx} (hG : am_G G) (N : Nat) (dk : Nat) (hdk : 10 ≤ dk) (kr : Int32 → Sg → Option (Int32 × Sg)) (hkr : ∀ (x1 : Int32) (σ : Sg) (r : Int32 × Sg), kr x1 σ = some r → am_Ct G dk yX2_readEither mX2_readEither [.ref 6, .int x1] σ (am_qi r.1 r.2)) (x1 : Int32) (σ : Sg) (r : Int32 × Sg) (h : f_X2_readEither_b N kr x1 σ = some r) : am_Ct G (dk + 3) yX2_readEither mX2_readEither [.ref 6, .int x1] σ (am_qi r.1 r.2) := by
  refine am_enter hG rfl rfl (Nat.le_of_ble_eq_true rfl) ?_
  intro K h0 X
  unfold f_X2_readEither_b at h
  refine am_jump (pc' := 0) (ls' := [some (.ref 6), some (.int x1), none]) ?_ rfl ⟨rfl, rfl, trivial⟩
  refine am_aload_n X dX2_readEither_0 rfl rfl ?_
  refine am_iload_n X dX2_readEither_1 rfl rfl ?_
  obtain ⟨v2, σ2, hc, h⟩ := bd2_some h
  refine am_callv_i1 X dX2_readEither_2 cw_X2_82 (ct_X2_readBoth hG N dk hdk kr hkr _ _ _ hc) (by omega) rfl rfl rfl rfl (Nat.le_of_ble_eq_true rfl) ?_
  refine am_if_ne (tgt := 10) X dX2_readEither_5 (by decide) (fun c => ?_) (fun c => ?_)
  · have h := if_f h c
    refine am_iconst (v := (0 : Int32)) X dX2_readEither_10 (by decide) ?_
    refine am_istore_n (ls' := [some (.ref 6), some (.int x1), some (.int (0 : Int32))]) X dX2_readEither_11 rfl (by decide)  rfl rfl ?_
    exact am_jump (t_X2_readEither_12 hG N dk hdk kr hkr N _ _ _ _ h K h0 X) rfl ⟨rfl, rfl, rfl, trivial⟩
  · have h := if_t h c
    refine am_iconst (v := (0 : Int32)) X dX2_readEither_8 (by decide) ?_
    obtain rfl := Option.some.inj h
    exact am_zret X h0 dX2_readEither_9 rfl (by decide) ⟨rfl, rfl⟩
set_option maxRecDepth 100000 in
set_option maxHeartbeats 4000000 in
theorem ct_X2_readEither {G : Cx} (hG : am_G G) (N : Nat) : ∀ (D : Nat) (x1 : Int32) (σ : Sg) (r : Int32 × Sg), f_X2_readEither N D x1 σ = some r → am_Ct G (10 + 3 * D) yX2_readEither mX2_readEither [.ref 6, .int x1] σ (am_qi r.1 r.2) := by
  intro D
  induction D with
  | zero => intro x1 σ r h; cases h
  | succ D ih => intro x1 σ r h; exact (ct_X2_readEither_b hG N (10 + 3 * D) (by omega) (f_X2_readEither N D) ih x1 σ r h)
set_option maxRecDepth 100000 in
set_option maxHeartbeats 4000000 in
theorem t_X2_read_31b {G : Cx} (hG : am_G G) (N : Nat) (k31 : Int32 → Sg → Option (Int32 × Sg)) (hk31 : ∀ (x3 : Int32) (σ : Sg) (r : Int32 × Sg), k31 x3 σ = some r → am_Wp G mX2_read 70 (am_qi r.1 r.2) 31 [some (.ref 6), none, none, some (.int x3)] [] σ) (x3 : Int32) (σ : Sg) (r : Int32 × Sg) (h : b_X2_read_31b N k31 x3 σ = some r) : am_Wp G mX2_read 70 (am_qi r.1 r.2) 31 [some (.ref 6), none, none, some (.int x3)] [] σ := by
  intro K h0 X
  unfold b_X2_read_31b at h
  refine am_iload_n X dX2_read_31 rfl rfl ?_
  refine am_bipush (v := (10 : Int32)) X dX2_read_32 (by decide) ?_
  refine am_icmp_ge (tgt := 100) X dX2_read_34 (by decide) (fun c => ?_) (fun c => ?_)
  · have h := if_t h c
    refine am_aload_n X dX2_read_100 rfl rfl ?_
    refine am_getf (v := .int (rg σ 6 3)) X dX2_read_101 fl_X2_32 rfl rfl (by decide) ?_
    obtain rfl := Option.some.inj h
    exact am_iret X h0 dX2_read_104 rfl ⟨rfl, rfl⟩
  · have h := if_f h c
    refine am_aload_n X dX2_read_37 rfl rfl ?_
    obtain ⟨v38, σ38, hc, h⟩ := bd2_some h
    refine am_callv_i0 X dX2_read_38 cw_X2_38 (ct_X2_readHead hG N _ _ hc) (Nat.le_of_ble_eq_true rfl) rfl rfl rfl rfl (Nat.le_of_ble_eq_true rfl) ?_
    refine am_if_eq (tgt := 52) X dX2_read_41 (by decide) (fun c => ?_) (fun c => ?_)
    · have h := if_t h c
      refine am_aload_n X dX2_read_52 rfl rfl ?_
      refine am_getf (v := .int (rg σ38 6 3)) X dX2_read_53 fl_X2_32 rfl rfl (by decide) ?_
      obtain rfl := Option.some.inj h
      exact am_iret X h0 dX2_read_56 rfl ⟨rfl, rfl⟩
    · have h := if_f h c
      refine am_aload_n X dX2_read_44 rfl rfl ?_
      refine am_iconst (v := (0 : Int32)) X dX2_read_45 (by decide) ?_
      obtain ⟨v46, σ46, hc, h⟩ := bd2_some h
      refine am_callv_i1 X dX2_read_46 cw_X2_42 (ct_X2_readEither hG N 20 _ _ _ hc) (Nat.le_of_ble_eq_true rfl) rfl rfl rfl rfl (Nat.le_of_ble_eq_true rfl) ?_
      refine am_if_ne (tgt := 57) X dX2_read_49 (by decide) (fun c => ?_) (fun c => ?_)
      · have h := if_f h c
        refine am_aload_n X dX2_read_57 rfl rfl ?_
        refine am_getf (v := .int (rg σ46 6 3)) X dX2_read_58 fl_X2_32 rfl rfl (by decide) ?_
        refine am_aload_n X dX2_read_61 rfl rfl ?_
        refine am_getf (v := .int (rg σ46 6 2)) X dX2_read_62 fl_X2_28 rfl rfl (by decide) ?_
        refine am_icmp_ne (tgt := 70) X dX2_read_65 (by decide) (fun c => ?_) (fun c => ?_)
        · have h := if_f h c
          refine am_aload_n X dX2_read_70 rfl rfl ?_
          refine am_getf (v := .ref 5) X dX2_read_71 fl_X2_18 rfl rfl (by decide) ?_
          obtain ⟨v74, σ74, hc, h⟩ := bd2_some h
          refine am_callv_i0 X dX2_read_74 cw_X2_46 (ct_X5_isFull hG N _ _ hc) (Nat.le_of_ble_eq_true rfl) rfl rfl rfl rfl (Nat.le_of_ble_eq_true rfl) ?_
          refine am_if_ne (tgt := 89) X dX2_read_77 (by decide) (fun c => ?_) (fun c => ?_)
          · have h := if_f h c
            refine am_aload_n X dX2_read_89 rfl rfl ?_
            refine am_getf (v := .int (rg σ74 6 3)) X dX2_read_90 fl_X2_32 rfl rfl (by decide) ?_
            obtain rfl := Option.some.inj h
            exact am_iret X h0 dX2_read_93 rfl ⟨rfl, rfl⟩
          · have h := if_t h c
            refine am_aload_n X dX2_read_80 rfl rfl ?_
            refine am_bipush (v := (59 : Int32)) X dX2_read_81 (by decide) ?_
            obtain ⟨v83, σ83, hc, h⟩ := bd2_some h
            refine am_callv_i1 X dX2_read_83 cw_X2_49 (ct_X2_take hG N _ _ _ hc) (Nat.le_of_ble_eq_true rfl) rfl rfl rfl rfl (Nat.le_of_ble_eq_true rfl) ?_
            refine am_if_ne (tgt := 94) X dX2_read_86 (by decide) (fun c => ?_) (fun c => ?_)
            · have h := if_f h c
              refine am_iinc (ls' := fun x3_94 => [some (.ref 6), none, none, some (.int x3_94)]) X dX2_read_94 rfl h (by decide) (by decide) rfl (fun _ => rfl) (fun x3_94 h => ?_)
              refine am_goto (tgt := 31) X dX2_read_97 (by decide) ?_
              exact am_jump (hk31 _ _ _ h K h0 X) rfl ⟨rfl, rfl, trivial⟩
            · have h := if_t h c
              refine am_aload_n X dX2_read_89 rfl rfl ?_
              refine am_getf (v := .int (rg σ83 6 3)) X dX2_read_90 fl_X2_32 rfl rfl (by decide) ?_
              obtain rfl := Option.some.inj h
              exact am_iret X h0 dX2_read_93 rfl ⟨rfl, rfl⟩
        · have h := if_t h c
          refine am_iconst (v := (-1 : Int32)) X dX2_read_68 (by decide) ?_
          obtain rfl := Option.some.inj h
          exact am_iret X h0 dX2_read_69 rfl ⟨rfl, rfl⟩
      · have h := if_t h c
        refine am_aload_n X dX2_read_52 rfl rfl ?_
        refine am_getf (v := .int (rg σ46 6 3)) X dX2_read_53 fl_X2_32 rfl rfl (by decide) ?_
        obtain rfl := Option.some.inj h
        exact am_iret X h0 dX2_read_56 rfl ⟨rfl, rfl⟩
set_option maxRecDepth 100000 in
set_option maxHeartbeats 4000000 in
theorem t_X2_read_31 {G : Cx} (hG : am_G G) (N : Nat) : ∀ (n : Nat) (x3 : Int32) (σ : Sg) (r : Int32 × Sg), b_X2_read_31 N n x3 σ = some r → am_Wp G mX2_read 70 (am_qi r.1 r.2) 31 [some (.ref 6), none, none, some (.int x3)] [] σ := by
  intro n
  induction n with
  | zero => intro x3 σ r h; cases h
  | succ n ih => intro x3 σ r h; exact t_X2_read_31b hG N (b_X2_read_31 N n) ih x3 σ r h
set_option maxRecDepth 100000 in
set_option maxHeartbeats 4000000 in
theorem ct_X2_read {G : Cx} (hG : am_G G) (N : Nat) (x2 : Int32) (σ : Sg) (r : Int32 × Sg) (h : f_X2_read N x2 σ = some r) : am_Ct G 71 yX2_read mX2_read [.ref 6, .ref 15, .int x2] σ (am_qi r.1 r.2) := by
  refine am_enter hG rfl rfl (Nat.le_of_ble_eq_true rfl) ?_
  intro K h0 X
  unfold f_X2_read at h
  refine am_jump (pc' := 0) (ls' := [some (.ref 6), some (.ref 15), some (.int x2), none]) ?_ rfl ⟨rfl, rfl, rfl, trivial⟩
  refine am_aload_n X dX2_read_0 rfl rfl ?_
  refine am_iconst (v := (0 : Int32)) X dX2_read_1 (by decide) ?_
  refine am_aload_n X dX2_read_2 rfl rfl ?_
  refine am_getf (v := .ref 41) X dX2_read_3 fl_X2_9 rfl rfl (by decide) ?_
  refine am_iconst (v := (0 : Int32)) X dX2_read_6 (by decide) ?_
  refine am_bipush (v := (100 : Int32)) X dX2_read_7 (by decide) ?_
  refine am_copyi (n := 100) X dX2_read_9 (wm_r7 _ (List.mem_of_getElem? (i := 6) rfl)) rfl rfl (by decide) (by decide) (by decide) ⟨Nat.le_add_left 1 _, Nat.le_of_ble_eq_true rfl⟩ ?_
  refine am_tops h (fun σ9 h => ?_)
  refine am_aload_n X dX2_read_12 rfl rfl ?_
  refine am_iload_n X dX2_read_13 rfl rfl ?_
  refine am_putfi X dX2_read_14 fp_X2_28 rfl rfl ?_
  refine am_tops h (fun σ14 h => ?_)
  refine am_aload_n X dX2_read_17 rfl rfl ?_
  refine am_iconst (v := (0 : Int32)) X dX2_read_18 (by decide) ?_
  refine am_putfi X dX2_read_19 fp_X2_32 rfl rfl ?_
  refine am_tops h (fun σ19 h => ?_)
  refine am_aload_n X dX2_read_22 rfl rfl ?_
  refine am_getf (v := .ref 5) X dX2_read_23 fl_X2_18 rfl rfl (by decide) ?_
  obtain ⟨σ26, hc, h⟩ := bd_some h
  refine am_callv_v0 X dX2_read_26 cw_X2_35 (ct_X5_clear hG N _ _ hc) (Nat.le_of_ble_eq_true rfl) rfl rfl rfl rfl (Nat.le_of_ble_eq_true rfl) ?_
  refine am_iconst (v := (0 : Int32)) X dX2_read_29 (by decide) ?_
  refine am_istore_n (ls' := [some (.ref 6), some (.ref 15), some (.int x2), some (.int (0 : Int32))]) X dX2_read_30 rfl (by decide)  rfl rfl ?_
  exact am_jump (t_X2_read_31 hG N N _ _ _ h K h0 X) rfl ⟨rfl, rfl, trivial⟩
set_option maxRecDepth 100000 in
set_option maxHeartbeats 4000000 in
theorem ct_X5_copyFrom_v1 {G : Cx} (hG : am_G G) (N : Nat) (σ : Sg) (r : Sg) (h : f_X5_copyFrom_v1 N σ = some r) : am_Ct G 1 yX5_copyFrom mX5_copyFrom [.ref 3, .ref 5] σ (am_qv r) := by
  refine am_enter hG rfl rfl (Nat.le_of_ble_eq_true rfl) ?_
  intro K h0 X
  unfold f_X5_copyFrom_v1 at h
  refine am_jump (pc' := 0) (ls' := [some (.ref 3), some (.ref 5)]) ?_ rfl ⟨rfl, rfl, trivial⟩
  refine am_aload_n X dX5_copyFrom_0 rfl rfl ?_
  refine am_aload_n X dX5_copyFrom_1 rfl rfl ?_
  refine am_getf (v := .int (rg σ 5 0)) X dX5_copyFrom_2 fl_X5_27 rfl rfl (by decide) ?_
  refine am_putfi X dX5_copyFrom_5 fp_X5_27 rfl rfl ?_
  refine am_tops h (fun σ5 h => ?_)
  refine am_aload_n X dX5_copyFrom_8 rfl rfl ?_
  refine am_aload_n X dX5_copyFrom_9 rfl rfl ?_
  refine am_getf (v := .int (rg σ5 5 4)) X dX5_copyFrom_10 fl_X5_31 rfl rfl (by decide) ?_
  refine am_putfi X dX5_copyFrom_13 fp_X5_31 rfl rfl ?_
  refine am_tops h (fun σ13 h => ?_)
  refine am_aload_n X dX5_copyFrom_16 rfl rfl ?_
  refine am_getf (v := .ref 36) X dX5_copyFrom_17 fl_X5_9 rfl rfl (by decide) ?_
  refine am_iconst (v := (0 : Int32)) X dX5_copyFrom_20 (by decide) ?_
  refine am_aload_n X dX5_copyFrom_21 rfl rfl ?_
  refine am_getf (v := .ref 26) X dX5_copyFrom_22 fl_X5_9 rfl rfl (by decide) ?_
  refine am_iconst (v := (0 : Int32)) X dX5_copyFrom_25 (by decide) ?_
  refine am_bipush (v := (10 : Int32)) X dX5_copyFrom_26 (by decide) ?_
  refine am_copyi (n := 10) X dX5_copyFrom_28 (wm_r12 _ (List.mem_of_getElem? (i := 10) rfl)) rfl rfl (by decide) (by decide) (by decide) ⟨Nat.le_add_left 1 _, Nat.le_of_ble_eq_true rfl⟩ ?_
  refine am_tops h (fun σ28 h => ?_)
  refine am_aload_n X dX5_copyFrom_31 rfl rfl ?_
  refine am_getf (v := .ref 37) X dX5_copyFrom_32 fl_X5_15 rfl rfl (by decide) ?_
  refine am_iconst (v := (0 : Int32)) X dX5_copyFrom_35 (by decide) ?_
  refine am_aload_n X dX5_copyFrom_36 rfl rfl ?_
  refine am_getf (v := .ref 27) X dX5_copyFrom_37 fl_X5_15 rfl rfl (by decide) ?_
  refine am_iconst (v := (0 : Int32)) X dX5_copyFrom_40 (by decide) ?_
  refine am_bipush (v := (10 : Int32)) X dX5_copyFrom_41 (by decide) ?_
  refine am_copyi (n := 10) X dX5_copyFrom_43 (wm_r12 _ (List.mem_of_getElem? (i := 10) rfl)) rfl rfl (by decide) (by decide) (by decide) ⟨Nat.le_add_left 1 _, Nat.le_of_ble_eq_true rfl⟩ ?_
  refine am_tops h (fun σ43 h => ?_)
  refine am_aload_n X dX5_copyFrom_46 rfl rfl ?_
  refine am_getf (v := .ref 38) X dX5_copyFrom_47 fl_X5_18 rfl rfl (by decide) ?_
  refine am_iconst (v := (0 : Int32)) X dX5_copyFrom_50 (by decide) ?_
  refine am_aload_n X dX5_copyFrom_51 rfl rfl ?_
  refine am_getf (v := .ref 28) X dX5_copyFrom_52 fl_X5_18 rfl rfl (by decide) ?_
  refine am_iconst (v := (0 : Int32)) X dX5_copyFrom_55 (by decide) ?_
  refine am_bipush (v := (11 : Int32)) X dX5_copyFrom_56 (by decide) ?_
  refine am_copyi (n := 11) X dX5_copyFrom_58 (wm_r12 _ (List.mem_of_getElem? (i := 10) rfl)) rfl rfl (by decide) (by decide) (by decide) ⟨Nat.le_add_left 1 _, Nat.le_of_ble_eq_true rfl⟩ ?_
  refine am_tops h (fun σ58 h => ?_)
  refine am_aload_n X dX5_copyFrom_61 rfl rfl ?_
  refine am_getf (v := .ref 39) X dX5_copyFrom_62 fl_X5_21 rfl rfl (by decide) ?_
  refine am_iconst (v := (0 : Int32)) X dX5_copyFrom_65 (by decide) ?_
  refine am_aload_n X dX5_copyFrom_66 rfl rfl ?_
  refine am_getf (v := .ref 29) X dX5_copyFrom_67 fl_X5_21 rfl rfl (by decide) ?_
  refine am_iconst (v := (0 : Int32)) X dX5_copyFrom_70 (by decide) ?_
  refine am_bipush (v := (100 : Int32)) X dX5_copyFrom_71 (by decide) ?_
  refine am_copyi (n := 100) X dX5_copyFrom_73 (wm_r12 _ (List.mem_of_getElem? (i := 10) rfl)) rfl rfl (by decide) (by decide) (by decide) ⟨Nat.le_add_left 1 _, Nat.le_of_ble_eq_true rfl⟩ ?_
  refine am_tops h (fun σ73 h => ?_)
  obtain rfl := Option.some.inj h
  exact am_vret X h0 dX5_copyFrom_76 rfl ⟨rfl, rfl⟩
set_option maxRecDepth 100000 in
set_option maxHeartbeats 4000000 in
theorem ct_X6_town {G : Cx} (hG : am_G G) (N : Nat) (σ : Sg) (r : Int32 × Sg) (h : f_X6_town N σ = some r) : am_Ct G 72 yX6_town mX6_town [.ref 0] σ (am_qi r.1 r.2) := by
  refine am_enter hG rfl rfl (Nat.le_of_ble_eq_true rfl) ?_
  intro K h0 X
  unfold f_X6_town at h
  refine am_jump (pc' := 0) (ls' := [some (.ref 0), none]) ?_ rfl ⟨rfl, trivial⟩
  refine am_aload_n X dX6_town_0 rfl rfl ?_
  refine am_getf (v := .ref 1) X dX6_town_1 fl_X6_12 rfl rfl (by decide) ?_
  refine am_getf (v := .int (rg σ 1 9)) X dX6_town_4 fl_X6_61 rfl rfl (by decide) ?_
  refine am_iconst (v := (5 : Int32)) X dX6_town_7 (by decide) ?_
  refine am_icmp_lt (tgt := 14) X dX6_town_8 (by decide) (fun c => ?_) (fun c => ?_)
  · have h := if_t h c
    refine am_aload_n X dX6_town_14 rfl rfl ?_
    refine am_getf (v := .ref 6) X dX6_town_15 fl_X6_28 rfl rfl (by decide) ?_
    refine am_aload_n X dX6_town_18 rfl rfl ?_
    refine am_getf (v := .ref 1) X dX6_town_19 fl_X6_12 rfl rfl (by decide) ?_
    refine am_getf (v := .ref 15) X dX6_town_22 fl_X6_57 rfl rfl (by decide) ?_
    refine am_aload_n X dX6_town_25 rfl rfl ?_
    refine am_getf (v := .ref 1) X dX6_town_26 fl_X6_12 rfl rfl (by decide) ?_
    refine am_getf (v := .int (rg σ 1 7)) X dX6_town_29 fl_X6_53 rfl rfl (by decide) ?_
    obtain ⟨v32, σ32, hc, h⟩ := bd2_some h
    refine am_callv_i2 X dX6_town_32 cw_X6_64 (ct_X2_read hG N _ _ _ hc) (Nat.le_of_ble_eq_true rfl) rfl rfl rfl rfl (Nat.le_of_ble_eq_true rfl) ?_
    refine am_istore_n (ls' := [some (.ref 0), some (.int v32)]) X dX6_town_35 rfl (by decide)  rfl rfl ?_
    refine am_aload_n X dX6_town_36 rfl rfl ?_
    refine am_getf (v := .ref 1) X dX6_town_37 fl_X6_12 rfl rfl (by decide) ?_
    refine am_iconst (v := (0 : Int32)) X dX6_town_40 (by decide) ?_
    refine am_putfi X dX6_town_41 fp_X6_53 rfl rfl ?_
    refine am_tops h (fun σ41 h => ?_)
    refine am_iload_n X dX6_town_44 rfl rfl ?_
    refine am_if_lt (tgt := 53) X dX6_town_45 (by decide) (fun c => ?_) (fun c => ?_)
    · have h := if_t h c
      refine am_aload_n X dX6_town_53 rfl rfl ?_
      refine am_getf (v := .ref 1) X dX6_town_54 fl_X6_12 rfl rfl (by decide) ?_
      refine am_getf (v := .ref 3) X dX6_town_57 fl_X6_68 rfl rfl (by decide) ?_
      refine am_aload_n X dX6_town_60 rfl rfl ?_
      refine am_getf (v := .ref 6) X dX6_town_61 fl_X6_28 rfl rfl (by decide) ?_
      refine am_getf (v := .ref 5) X dX6_town_64 fl_X6_72 rfl rfl (by decide) ?_
      obtain ⟨σ67, hc, h⟩ := bd_some h
      refine am_callv_v1 X dX6_town_67 cw_X6_75 (ct_X5_copyFrom_v1 hG N _ _ hc) (Nat.le_of_ble_eq_true rfl) rfl rfl rfl rfl (Nat.le_of_ble_eq_true rfl) ?_
      refine am_aload_n X dX6_town_70 rfl rfl ?_
      refine am_getf (v := .ref 1) X dX6_town_71 fl_X6_12 rfl rfl (by decide) ?_
      refine am_dup X dX6_town_74 rfl ?_
      refine am_getf (v := .int (rg σ67 1 9)) X dX6_town_75 fl_X6_61 rfl rfl (by decide) ?_
      refine am_iconst (v := (1 : Int32)) X dX6_town_78 (by decide) ?_
      refine am_iadd X dX6_town_79 ?_
      refine am_putfi X dX6_town_80 fp_X6_61 rfl rfl ?_
      refine am_tops h (fun σ80 h => ?_)
      refine am_aload_n X dX6_town_83 rfl rfl ?_
      refine am_getf (v := .ref 1) X dX6_town_84 fl_X6_12 rfl rfl (by decide) ?_
      refine am_getf (v := .int (rg σ80 1 9)) X dX6_town_87 fl_X6_61 rfl rfl (by decide) ?_
      refine am_iconst (v := (1 : Int32)) X dX6_town_90 (by decide) ?_
      refine am_isub X dX6_town_91 ?_
      obtain rfl := Option.some.inj h
      exact am_iret X h0 dX6_town_92 rfl ⟨rfl, rfl⟩
    · have h := if_f h c
      refine am_bipush (v := (-10 : Int32)) X dX6_town_48 (by decide) ?_
      refine am_iload_n X dX6_town_50 rfl rfl ?_
      refine am_isub X dX6_town_51 ?_
      obtain rfl := Option.some.inj h
      exact am_iret X h0 dX6_town_52 rfl ⟨rfl, rfl⟩
  · have h := if_f h c
    refine am_bipush (v := (-4 : Int32)) X dX6_town_11 (by decide) ?_
    obtain rfl := Option.some.inj h
    exact am_iret X h0 dX6_town_13 rfl ⟨rfl, rfl⟩
set_option maxRecDepth 100000 in
set_option maxHeartbeats 4000000 in
theorem ct_X6_trace {G : Cx} (hG : am_G G) (N : Nat) (x1 : Int32) (σ : Sg) (r : Int32 × Sg) (h : f_X6_trace N x1 σ = some r) : am_Ct G 1 yX6_trace mX6_trace [.ref 0, .int x1] σ (am_qi r.1 r.2) := by
  refine am_enter hG rfl rfl (Nat.le_of_ble_eq_true rfl) ?_
  intro K h0 X
  unfold f_X6_trace at h
  refine am_jump (pc' := 0) (ls' := [some (.ref 0), some (.int x1)]) ?_ rfl ⟨rfl, rfl, trivial⟩
  refine am_iload_n X dX6_trace_0 rfl rfl ?_
  refine am_if_lt (tgt := 21) X dX6_trace_1 (by decide) (fun c => ?_) (fun c => ?_)
  · have h := if_t h c
    refine am_iconst (v := (-1 : Int32)) X dX6_trace_21 (by decide) ?_
    obtain rfl := Option.some.inj h
    exact am_iret X h0 dX6_trace_22 rfl ⟨rfl, rfl⟩
  · have h := if_f h c
    refine am_iload_n X dX6_trace_4 rfl rfl ?_
    refine am_aload_n X dX6_trace_5 rfl rfl ?_
    refine am_getf (v := .ref 9) X dX6_trace_6 fl_X6_49 rfl rfl (by decide) ?_
    refine am_getf (v := .int (rg σ 9 0)) X dX6_trace_9 fl_X6_215 rfl rfl (by decide) ?_
    refine am_icmp_ge (tgt := 21) X dX6_trace_12 (by decide) (fun c => ?_) (fun c => ?_)
    · have h := if_t h c
      refine am_iconst (v := (-1 : Int32)) X dX6_trace_21 (by decide) ?_
      obtain rfl := Option.some.inj h
      exact am_iret X h0 dX6_trace_22 rfl ⟨rfl, rfl⟩
    · have h := if_f h c
      refine am_iload_n X dX6_trace_15 rfl rfl ?_
      refine am_bipush (v := (20 : Int32)) X dX6_trace_16 (by decide) ?_
      refine am_icmp_lt (tgt := 23) X dX6_trace_18 (by decide) (fun c => ?_) (fun c => ?_)
      · have h := if_t h c
        refine am_aload_n X dX6_trace_23 rfl rfl ?_
        refine am_getf (v := .ref 9) X dX6_trace_24 fl_X6_49 rfl rfl (by decide) ?_
        refine am_getf (v := .ref 59) X dX6_trace_27 fl_X6_218 rfl rfl (by decide) ?_
        refine am_iload_n X dX6_trace_30 rfl rfl ?_
        obtain ⟨g, h⟩ := gd_some h
        refine am_iald X dX6_trace_31 rfl g ?_
        obtain rfl := Option.some.inj h
        exact am_iret X h0 dX6_trace_32 rfl ⟨rfl, rfl⟩
      · have h := if_f h c
        refine am_iconst (v := (-1 : Int32)) X dX6_trace_21 (by decide) ?_
        obtain rfl := Option.some.inj h
        exact am_iret X h0 dX6_trace_22 rfl ⟨rfl, rfl⟩
set_option maxRecDepth 100000 in
set_option maxHeartbeats 4000000 in
theorem ct_X5_copyFrom_v2 {G : Cx} (hG : am_G G) (N : Nat) (σ : Sg) (r : Sg) (h : f_X5_copyFrom_v2 N σ = some r) : am_Ct G 1 yX5_copyFrom mX5_copyFrom [.ref 3, .ref 4] σ (am_qv r) := by
  refine am_enter hG rfl rfl (Nat.le_of_ble_eq_true rfl) ?_
  intro K h0 X
  unfold f_X5_copyFrom_v2 at h
  refine am_jump (pc' := 0) (ls' := [some (.ref 3), some (.ref 4)]) ?_ rfl ⟨rfl, rfl, trivial⟩
  refine am_aload_n X dX5_copyFrom_0 rfl rfl ?_
  refine am_aload_n X dX5_copyFrom_1 rfl rfl ?_
  refine am_getf (v := .int (rg σ 4 0)) X dX5_copyFrom_2 fl_X5_27 rfl rfl (by decide) ?_
  refine am_putfi X dX5_copyFrom_5 fp_X5_27 rfl rfl ?_
  refine am_tops h (fun σ5 h => ?_)
  refine am_aload_n X dX5_copyFrom_8 rfl rfl ?_
  refine am_aload_n X dX5_copyFrom_9 rfl rfl ?_
  refine am_getf (v := .int (rg σ5 4 4)) X dX5_copyFrom_10 fl_X5_31 rfl rfl (by decide) ?_
  refine am_putfi X dX5_copyFrom_13 fp_X5_31 rfl rfl ?_
  refine am_tops h (fun σ13 h => ?_)
  refine am_aload_n X dX5_copyFrom_16 rfl rfl ?_
  refine am_getf (v := .ref 31) X dX5_copyFrom_17 fl_X5_9 rfl rfl (by decide) ?_
  refine am_iconst (v := (0 : Int32)) X dX5_copyFrom_20 (by decide) ?_
  refine am_aload_n X dX5_copyFrom_21 rfl rfl ?_
  refine am_getf (v := .ref 26) X dX5_copyFrom_22 fl_X5_9 rfl rfl (by decide) ?_
  refine am_iconst (v := (0 : Int32)) X dX5_copyFrom_25 (by decide) ?_
  refine am_bipush (v := (10 : Int32)) X dX5_copyFrom_26 (by decide) ?_
  refine am_copyi (n := 10) X dX5_copyFrom_28 (wm_r12 _ (List.mem_of_getElem? (i := 10) rfl)) rfl rfl (by decide) (by decide) (by decide) ⟨Nat.le_add_left 1 _, Nat.le_of_ble_eq_true rfl⟩ ?_
  refine am_tops h (fun σ28 h => ?_)
  refine am_aload_n X dX5_copyFrom_31 rfl rfl ?_
  refine am_getf (v := .ref 32) X dX5_copyFrom_32 fl_X5_15 rfl rfl (by decide) ?_
  refine am_iconst (v := (0 : Int32)) X dX5_copyFrom_35 (by decide) ?_
  refine am_aload_n X dX5_copyFrom_36 rfl rfl ?_
  refine am_getf (v := .ref 27) X dX5_copyFrom_37 fl_X5_15 rfl rfl (by decide) ?_
  refine am_iconst (v := (0 : Int32)) X dX5_copyFrom_40 (by decide) ?_
  refine am_bipush (v := (10 : Int32)) X dX5_copyFrom_41 (by decide) ?_
  refine am_copyi (n := 10) X dX5_copyFrom_43 (wm_r12 _ (List.mem_of_getElem? (i := 10) rfl)) rfl rfl (by decide) (by decide) (by decide) ⟨Nat.le_add_left 1 _, Nat.le_of_ble_eq_true rfl⟩ ?_
  refine am_tops h (fun σ43 h => ?_)
  refine am_aload_n X dX5_copyFrom_46 rfl rfl ?_
  refine am_getf (v := .ref 33) X dX5_copyFrom_47 fl_X5_18 rfl rfl (by decide) ?_
  refine am_iconst (v := (0 : Int32)) X dX5_copyFrom_50 (by decide) ?_
  refine am_aload_n X dX5_copyFrom_51 rfl rfl ?_
  refine am_getf (v := .ref 28) X dX5_copyFrom_52 fl_X5_18 rfl rfl (by decide) ?_
  refine am_iconst (v := (0 : Int32)) X dX5_copyFrom_55 (by decide) ?_
  refine am_bipush (v := (11 : Int32)) X dX5_copyFrom_56 (by decide) ?_
  refine am_copyi (n := 11) X dX5_copyFrom_58 (wm_r12 _ (List.mem_of_getElem? (i := 10) rfl)) rfl rfl (by decide) (by decide) (by decide) ⟨Nat.le_add_left 1 _, Nat.le_of_ble_eq_true rfl⟩ ?_
  refine am_tops h (fun σ58 h => ?_)
  refine am_aload_n X dX5_copyFrom_61 rfl rfl ?_
  refine am_getf (v := .ref 34) X dX5_copyFrom_62 fl_X5_21 rfl rfl (by decide) ?_
  refine am_iconst (v := (0 : Int32)) X dX5_copyFrom_65 (by decide) ?_
  refine am_aload_n X dX5_copyFrom_66 rfl rfl ?_
  refine am_getf (v := .ref 29) X dX5_copyFrom_67 fl_X5_21 rfl rfl (by decide) ?_
  refine am_iconst (v := (0 : Int32)) X dX5_copyFrom_70 (by decide) ?_
  refine am_bipush (v := (100 : Int32)) X dX5_copyFrom_71 (by decide) ?_
  refine am_copyi (n := 100) X dX5_copyFrom_73 (wm_r12 _ (List.mem_of_getElem? (i := 10) rfl)) rfl rfl (by decide) (by decide) (by decide) ⟨Nat.le_add_left 1 _, Nat.le_of_ble_eq_true rfl⟩ ?_
  refine am_tops h (fun σ73 h => ?_)
  obtain rfl := Option.some.inj h
  exact am_vret X h0 dX5_copyFrom_76 rfl ⟨rfl, rfl⟩
set_option maxRecDepth 100000 in
set_option maxHeartbeats 4000000 in
theorem ct_X4_copyFrom_v1 {G : Cx} (hG : am_G G) (N : Nat) (σ : Sg) (r : Sg) (h : f_X4_copyFrom_v1 N σ = some r) : am_Ct G 2 yX4_copyFrom mX4_copyFrom [.ref 1, .ref 2] σ (am_qv r) := by
  refine am_enter hG rfl rfl (Nat.le_of_ble_eq_true rfl) ?_
  intro K h0 X
  unfold f_X4_copyFrom_v1 at h
  refine am_jump (pc' := 0) (ls' := [some (.ref 1), some (.ref 2)]) ?_ rfl ⟨rfl, rfl, trivial⟩
  refine am_aload_n X dX4_copyFrom_0 rfl rfl ?_
  refine am_aload_n X dX4_copyFrom_1 rfl rfl ?_
  refine am_getf (v := .int (rg σ 2 0)) X dX4_copyFrom_2 fl_X4_43 rfl rfl (by decide) ?_
  refine am_putfi X dX4_copyFrom_5 fp_X4_43 rfl rfl ?_
  refine am_tops h (fun σ5 h => ?_)
  refine am_aload_n X dX4_copyFrom_8 rfl rfl ?_
  refine am_getf (v := .ref 18) X dX4_copyFrom_9 fl_X4_9 rfl rfl (by decide) ?_
  refine am_iconst (v := (0 : Int32)) X dX4_copyFrom_12 (by decide) ?_
  refine am_aload_n X dX4_copyFrom_13 rfl rfl ?_
  refine am_getf (v := .ref 10) X dX4_copyFrom_14 fl_X4_9 rfl rfl (by decide) ?_
  refine am_iconst (v := (0 : Int32)) X dX4_copyFrom_17 (by decide) ?_
  refine am_bipush (v := (7 : Int32)) X dX4_copyFrom_18 (by decide) ?_
  refine am_copyi (n := 7) X dX4_copyFrom_20 (wm_r40 _ (List.mem_of_getElem? (i := 9) rfl)) rfl rfl (by decide) (by decide) (by decide) ⟨Nat.le_add_left 1 _, Nat.le_of_ble_eq_true rfl⟩ ?_
  refine am_tops h (fun σ20 h => ?_)
  refine am_aload_n X dX4_copyFrom_23 rfl rfl ?_
  refine am_getf (v := .ref 19) X dX4_copyFrom_24 fl_X4_15 rfl rfl (by decide) ?_
  refine am_iconst (v := (0 : Int32)) X dX4_copyFrom_27 (by decide) ?_
  refine am_aload_n X dX4_copyFrom_28 rfl rfl ?_
  refine am_getf (v := .ref 11) X dX4_copyFrom_29 fl_X4_15 rfl rfl (by decide) ?_
  refine am_iconst (v := (0 : Int32)) X dX4_copyFrom_32 (by decide) ?_
  refine am_bipush (v := (7 : Int32)) X dX4_copyFrom_33 (by decide) ?_
  refine am_copyi (n := 7) X dX4_copyFrom_35 (wm_r40 _ (List.mem_of_getElem? (i := 9) rfl)) rfl rfl (by decide) (by decide) (by decide) ⟨Nat.le_add_left 1 _, Nat.le_of_ble_eq_true rfl⟩ ?_
  refine am_tops h (fun σ35 h => ?_)
  refine am_aload_n X dX4_copyFrom_38 rfl rfl ?_
  refine am_getf (v := .ref 20) X dX4_copyFrom_39 fl_X4_18 rfl rfl (by decide) ?_
  refine am_iconst (v := (0 : Int32)) X dX4_copyFrom_42 (by decide) ?_
  refine am_aload_n X dX4_copyFrom_43 rfl rfl ?_
  refine am_getf (v := .ref 12) X dX4_copyFrom_44 fl_X4_18 rfl rfl (by decide) ?_
  refine am_iconst (v := (0 : Int32)) X dX4_copyFrom_47 (by decide) ?_
  refine am_bipush (v := (7 : Int32)) X dX4_copyFrom_48 (by decide) ?_
  refine am_copyi (n := 7) X dX4_copyFrom_50 (wm_r40 _ (List.mem_of_getElem? (i := 9) rfl)) rfl rfl (by decide) (by decide) (by decide) ⟨Nat.le_add_left 1 _, Nat.le_of_ble_eq_true rfl⟩ ?_
  refine am_tops h (fun σ50 h => ?_)
  refine am_aload_n X dX4_copyFrom_53 rfl rfl ?_
  refine am_getf (v := .ref 21) X dX4_copyFrom_54 fl_X4_21 rfl rfl (by decide) ?_
  refine am_iconst (v := (0 : Int32)) X dX4_copyFrom_57 (by decide) ?_
  refine am_aload_n X dX4_copyFrom_58 rfl rfl ?_
  refine am_getf (v := .ref 13) X dX4_copyFrom_59 fl_X4_21 rfl rfl (by decide) ?_
  refine am_iconst (v := (0 : Int32)) X dX4_copyFrom_62 (by decide) ?_
  refine am_bipush (v := (7 : Int32)) X dX4_copyFrom_63 (by decide) ?_
  refine am_copyi (n := 7) X dX4_copyFrom_65 (wm_r40 _ (List.mem_of_getElem? (i := 9) rfl)) rfl rfl (by decide) (by decide) (by decide) ⟨Nat.le_add_left 1 _, Nat.le_of_ble_eq_true rfl⟩ ?_
  refine am_tops h (fun σ65 h => ?_)
  refine am_aload_n X dX4_copyFrom_68 rfl rfl ?_
  refine am_getf (v := .ref 22) X dX4_copyFrom_69 fl_X4_24 rfl rfl (by decide) ?_
  refine am_iconst (v := (0 : Int32)) X dX4_copyFrom_72 (by decide) ?_
  refine am_aload_n X dX4_copyFrom_73 rfl rfl ?_
  refine am_getf (v := .ref 14) X dX4_copyFrom_74 fl_X4_24 rfl rfl (by decide) ?_
  refine am_iconst (v := (0 : Int32)) X dX4_copyFrom_77 (by decide) ?_
  refine am_bipush (v := (7 : Int32)) X dX4_copyFrom_78 (by decide) ?_
  refine am_copyi (n := 7) X dX4_copyFrom_80 (wm_r40 _ (List.mem_of_getElem? (i := 9) rfl)) rfl rfl (by decide) (by decide) (by decide) ⟨Nat.le_add_left 1 _, Nat.le_of_ble_eq_true rfl⟩ ?_
  refine am_tops h (fun σ80 h => ?_)
  refine am_aload_n X dX4_copyFrom_83 rfl rfl ?_
  refine am_aload_n X dX4_copyFrom_84 rfl rfl ?_
  refine am_getf (v := .int (rg σ80 2 6)) X dX4_copyFrom_85 fl_X4_53 rfl rfl (by decide) ?_
  refine am_putfi X dX4_copyFrom_88 fp_X4_53 rfl rfl ?_
  refine am_tops h (fun σ88 h => ?_)
  refine am_aload_n X dX4_copyFrom_91 rfl rfl ?_
  refine am_aload_n X dX4_copyFrom_92 rfl rfl ?_
  refine am_getf (v := .int (rg σ88 2 7)) X dX4_copyFrom_93 fl_X4_56 rfl rfl (by decide) ?_
  refine am_putfi X dX4_copyFrom_96 fp_X4_56 rfl rfl ?_
  refine am_tops h (fun σ96 h => ?_)
  refine am_aload_n X dX4_copyFrom_99 rfl rfl ?_
  refine am_getf (v := .ref 23) X dX4_copyFrom_100 fl_X4_27 rfl rfl (by decide) ?_
  refine am_iconst (v := (0 : Int32)) X dX4_copyFrom_103 (by decide) ?_
  refine am_aload_n X dX4_copyFrom_104 rfl rfl ?_
  refine am_getf (v := .ref 15) X dX4_copyFrom_105 fl_X4_27 rfl rfl (by decide) ?_
  refine am_iconst (v := (0 : Int32)) X dX4_copyFrom_108 (by decide) ?_
  refine am_bipush (v := (100 : Int32)) X dX4_copyFrom_109 (by decide) ?_
  refine am_copyi (n := 100) X dX4_copyFrom_111 (wm_r40 _ (List.mem_of_getElem? (i := 9) rfl)) rfl rfl (by decide) (by decide) (by decide) ⟨Nat.le_add_left 1 _, Nat.le_of_ble_eq_true rfl⟩ ?_
  refine am_tops h (fun σ111 h => ?_)
  refine am_aload_n X dX4_copyFrom_114 rfl rfl ?_
  refine am_aload_n X dX4_copyFrom_115 rfl rfl ?_
  refine am_getf (v := .int (rg σ111 2 9)) X dX4_copyFrom_116 fl_X4_59 rfl rfl (by decide) ?_
  refine am_putfi X dX4_copyFrom_119 fp_X4_59 rfl rfl ?_
  refine am_tops h (fun σ119 h => ?_)
  refine am_aload_n X dX4_copyFrom_122 rfl rfl ?_
  refine am_getf (v := .ref 3) X dX4_copyFrom_123 fl_X4_33 rfl rfl (by decide) ?_
  refine am_aload_n X dX4_copyFrom_126 rfl rfl ?_
  refine am_getf (v := .ref 4) X dX4_copyFrom_127 fl_X4_33 rfl rfl (by decide) ?_
  obtain ⟨σ130, hc, h⟩ := bd_some h
  refine am_callv_v1 X dX4_copyFrom_130 cw_X4_62 (ct_X5_copyFrom_v2 hG N _ _ hc) (Nat.le_of_ble_eq_true rfl) rfl rfl rfl rfl (Nat.le_of_ble_eq_true rfl) ?_
  refine am_aload_n X dX4_copyFrom_133 rfl rfl ?_
  refine am_aload_n X dX4_copyFrom_134 rfl rfl ?_
  refine am_getf (v := .int (rg σ130 2 11)) X dX4_copyFrom_135 fl_X4_66 rfl rfl (by decide) ?_
  refine am_putfi X dX4_copyFrom_138 fp_X4_66 rfl rfl ?_
  refine am_tops h (fun σ138 h => ?_)
  refine am_aload_n X dX4_copyFrom_141 rfl rfl ?_
  refine am_getf (v := .ref 24) X dX4_copyFrom_142 fl_X4_37 rfl rfl (by decide) ?_
  refine am_iconst (v := (0 : Int32)) X dX4_copyFrom_145 (by decide) ?_
  refine am_aload_n X dX4_copyFrom_146 rfl rfl ?_
  refine am_getf (v := .ref 16) X dX4_copyFrom_147 fl_X4_37 rfl rfl (by decide) ?_
  refine am_iconst (v := (0 : Int32)) X dX4_copyFrom_150 (by decide) ?_
  refine am_bipush (v := (7 : Int32)) X dX4_copyFrom_151 (by decide) ?_
  refine am_copyi (n := 7) X dX4_copyFrom_153 (wm_r40 _ (List.mem_of_getElem? (i := 9) rfl)) rfl rfl (by decide) (by decide) (by decide) ⟨Nat.le_add_left 1 _, Nat.le_of_ble_eq_true rfl⟩ ?_
  refine am_tops h (fun σ153 h => ?_)
  refine am_aload_n X dX4_copyFrom_156 rfl rfl ?_
  refine am_getf (v := .ref 25) X dX4_copyFrom_157 fl_X4_40 rfl rfl (by decide) ?_
  refine am_iconst (v := (0 : Int32)) X dX4_copyFrom_160 (by decide) ?_
  refine am_aload_n X dX4_copyFrom_161 rfl rfl ?_
  refine am_getf (v := .ref 17) X dX4_copyFrom_162 fl_X4_40 rfl rfl (by decide) ?_
  refine am_iconst (v := (0 : Int32)) X dX4_copyFrom_165 (by decide) ?_
  refine am_bipush (v := (7 : Int32)) X dX4_copyFrom_166 (by decide) ?_
  refine am_copyi (n := 7) X dX4_copyFrom_168 (wm_r40 _ (List.mem_of_getElem? (i := 9) rfl)) rfl rfl (by decide) (by decide) (by decide) ⟨Nat.le_add_left 1 _, Nat.le_of_ble_eq_true rfl⟩ ?_
  refine am_tops h (fun σ168 h => ?_)
  obtain rfl := Option.some.inj h
  exact am_vret X h0 dX4_copyFrom_171 rfl ⟨rfl, rfl⟩
set_option maxRecDepth 100000 in
set_option maxHeartbeats 4000000 in
theorem ct_X6_undo {G : Cx} (hG : am_G G) (N : Nat) (σ : Sg) (r : Int32 × Sg) (h : f_X6_undo N σ = some r) : am_Ct G 3 yX6_undo mX6_undo [.ref 0] σ (am_qi r.1 r.2) := by
  refine am_enter hG rfl rfl (Nat.le_of_ble_eq_true rfl) ?_
  intro K h0 X
  unfold f_X6_undo at h
  refine am_jump (pc' := 0) (ls' := [some (.ref 0)]) ?_ rfl ⟨rfl, trivial⟩
  refine am_aload_n X dX6_undo_0 rfl rfl ?_
  refine am_getf (v := .int (rg σ 0 2)) X dX6_undo_1 fl_X6_21 rfl rfl (by decide) ?_
  refine am_if_ne (tgt := 10) X dX6_undo_4 (by decide) (fun c => ?_) (fun c => ?_)
  · have h := if_f h c
    refine am_aload_n X dX6_undo_10 rfl rfl ?_
    refine am_getf (v := .ref 1) X dX6_undo_11 fl_X6_12 rfl rfl (by decide) ?_
    refine am_aload_n X dX6_undo_14 rfl rfl ?_
    refine am_getf (v := .ref 2) X dX6_undo_15 fl_X6_18 rfl rfl (by decide) ?_
    obtain ⟨σ18, hc, h⟩ := bd_some h
    refine am_callv_v1 X dX6_undo_18 cw_X6_224 (ct_X4_copyFrom_v1 hG N _ _ hc) (Nat.le_of_ble_eq_true rfl) rfl rfl rfl rfl (Nat.le_of_ble_eq_true rfl) ?_
    refine am_aload_n X dX6_undo_21 rfl rfl ?_
    refine am_getf (v := .ref 1) X dX6_undo_22 fl_X6_12 rfl rfl (by decide) ?_
    refine am_getf (v := .int (rg σ18 1 0)) X dX6_undo_25 fl_X6_84 rfl rfl (by decide) ?_
    obtain rfl := Option.some.inj h
    exact am_iret X h0 dX6_undo_28 rfl ⟨rfl, rfl⟩
  · have h := if_t h c
    refine am_bipush (v := (-3 : Int32)) X dX6_undo_7 (by decide) ?_
    obtain rfl := Option.some.inj h
    exact am_iret X h0 dX6_undo_9 rfl ⟨rfl, rfl⟩
set_option maxRecDepth 100000 in
set_option maxHeartbeats 4000000 in
theorem ct_X3_cheapestWay {G : Cx} (hG : am_G G) (N : Nat) (x1 : Int32) (x2 : Int32) (σ : Sg) (r : Int32 × Sg) (h : f_X3_cheapestWay N x1 x2 σ = some r) : am_Ct G 2 yX3_cheapestWay mX3_cheapestWay [.ref 8, .int x1, .int x2] σ (am_qi r.1 r.2) := by
  refine am_enter hG rfl rfl (Nat.le_of_ble_eq_true rfl) ?_
  intro K h0 X
  unfold f_X3_cheapestWay at h
  refine am_jump (pc' := 0) (ls' := [some (.ref 8), some (.int x1), some (.int x2)]) ?_ rfl ⟨rfl, rfl, rfl, trivial⟩
  refine am_aload_n X dX3_cheapestWay_0 rfl rfl ?_
  refine am_iload_n X dX3_cheapestWay_1 rfl rfl ?_
  refine am_iload_n X dX3_cheapestWay_2 rfl rfl ?_
  obtain ⟨v3, σ3, hc, h⟩ := bd2_some h
  refine am_callv_i2 X dX3_cheapestWay_3 cw_X3_43 (ct_X3_price hG N _ _ _ _ hc) (Nat.le_of_ble_eq_true rfl) rfl rfl rfl rfl (Nat.le_of_ble_eq_true rfl) ?_
  refine am_ldc (v := (1000000 : Int32)) X dX3_cheapestWay_6 (wm_r29 _ (List.mem_of_getElem? (i := 18) rfl)) ?_
  refine am_icmp_ge (tgt := 20) X dX3_cheapestWay_8 (by decide) (fun c => ?_) (fun c => ?_)
  · have h := if_t h c
    refine am_bipush (v := (-5 : Int32)) X dX3_cheapestWay_20 (by decide) ?_
    obtain rfl := Option.some.inj h
    exact am_iret X h0 dX3_cheapestWay_22 rfl ⟨rfl, rfl⟩
  · have h := if_f h c
    refine am_aload_n X dX3_cheapestWay_11 rfl rfl ?_
    refine am_iload_n X dX3_cheapestWay_12 rfl rfl ?_
    refine am_iload_n X dX3_cheapestWay_13 rfl rfl ?_
    obtain ⟨v14, σ14, hc, h⟩ := bd2_some h
    refine am_callv_i2 X dX3_cheapestWay_14 cw_X3_43 (ct_X3_price hG N _ _ _ _ hc) (Nat.le_of_ble_eq_true rfl) rfl rfl rfl rfl (Nat.le_of_ble_eq_true rfl) ?_
    refine am_goto (tgt := 22) X dX3_cheapestWay_17 (by decide) ?_
    obtain rfl := Option.some.inj h
    exact am_iret X h0 dX3_cheapestWay_22 rfl ⟨rfl, rfl⟩
set_option maxRecDepth 100000 in
set_option maxHeartbeats 4000000 in
theorem ct_X6_way {G : Cx} (hG : am_G G) (N : Nat) (x1 : Int32) (x2 : Int32) (σ : Sg) (r : Int32 × Sg) (h : f_X6_way N x1 x2 σ = some r) : am_Ct G 6 yX6_way mX6_way [.ref 0, .int x1, .int x2] σ (am_qi r.1 r.2) := by
  refine am_enter hG rfl rfl (Nat.le_of_ble_eq_true rfl) ?_
  intro K h0 X
  unfold f_X6_way at h
  refine am_jump (pc' := 0) (ls' := [some (.ref 0), some (.int x1), some (.int x2)]) ?_ rfl ⟨rfl, rfl, rfl, trivial⟩
  refine am_aload_n X dX6_way_0 rfl rfl ?_
  refine am_getf (v := .ref 1) X dX6_way_1 fl_X6_12 rfl rfl (by decide) ?_
  refine am_iload_n X dX6_way_4 rfl rfl ?_
  refine am_iload_n X dX6_way_5 rfl rfl ?_
  obtain ⟨v6, σ6, hc, h⟩ := bd2_some h
  refine am_callv_i2 X dX6_way_6 cw_X6_143 (ct_X4_hasBoth hG N _ _ _ _ hc) (Nat.le_of_ble_eq_true rfl) rfl rfl rfl rfl (Nat.le_of_ble_eq_true rfl) ?_
  refine am_if_ne (tgt := 14) X dX6_way_9 (by decide) (fun c => ?_) (fun c => ?_)
  · have h := if_f h c
    refine am_aload_n X dX6_way_14 rfl rfl ?_
    refine am_getf (v := .ref 8) X dX6_way_15 fl_X6_42 rfl rfl (by decide) ?_
    refine am_aload_n X dX6_way_18 rfl rfl ?_
    refine am_getf (v := .ref 1) X dX6_way_19 fl_X6_12 rfl rfl (by decide) ?_
    obtain ⟨σ22, hc, h⟩ := bd_some h
    refine am_callv_v1 X dX6_way_22 cw_X6_165 (ct_X3_load hG N _ _ hc) (Nat.le_of_ble_eq_true rfl) rfl rfl rfl rfl (Nat.le_of_ble_eq_true rfl) ?_
    refine am_aload_n X dX6_way_25 rfl rfl ?_
    refine am_getf (v := .ref 8) X dX6_way_26 fl_X6_42 rfl rfl (by decide) ?_
    refine am_iload_n X dX6_way_29 rfl rfl ?_
    refine am_iload_n X dX6_way_30 rfl rfl ?_
    obtain ⟨v31, σ31, hc, h⟩ := bd2_some h
    refine am_callv_i2 X dX6_way_31 cw_X6_166 (ct_X3_cheapestWay hG N _ _ _ _ hc) (Nat.le_of_ble_eq_true rfl) rfl rfl rfl rfl (Nat.le_of_ble_eq_true rfl) ?_
    obtain rfl := Option.some.inj h
    exact am_iret X h0 dX6_way_34 rfl ⟨rfl, rfl⟩
  · have h := if_t h c
    refine am_iconst (v := (-1 : Int32)) X dX6_way_12 (by decide) ?_
    obtain rfl := Option.some.inj h
    exact am_iret X h0 dX6_way_13 rfl ⟨rfl, rfl⟩
