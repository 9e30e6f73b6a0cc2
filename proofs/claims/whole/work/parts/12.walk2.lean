set_option maxRecDepth 100000 in
set_option maxHeartbeats 4000000 in
theorem ct_X6_go {G : Cx} (hG : am_G G) (N : Nat) (x1 : Int32) (x2 : Int32) (x3 : Int32) (σ : Sg) (r : Int32 × Sg) (h : f_X6_go N x1 x2 x3 σ = some r) : am_Ct G 3 yX6_go mX6_go [.ref 0, .int x1, .int x2, .int x3] σ (am_qi r.1 r.2) := by
  refine am_enter hG rfl rfl (Nat.le_of_ble_eq_true rfl) ?_
  intro K h0 X
  unfold f_X6_go at h
  refine am_jump (pc' := 0) (ls' := [some (.ref 0), some (.int x1), some (.int x2), some (.int x3)]) ?_ rfl ⟨rfl, rfl, rfl, rfl, trivial⟩
  refine am_aload_n X dX6_go_0 rfl rfl ?_
  refine am_getf (v := .ref 1) X dX6_go_1 fl_X6_12 rfl rfl (by decide) ?_
  refine am_iload_n X dX6_go_4 rfl rfl ?_
  refine am_iload_n X dX6_go_5 rfl rfl ?_
  obtain ⟨v6, σ6, hc, h⟩ := bd2_some h
  refine am_callv_i2 X dX6_go_6 cw_X6_143 (ct_X4_hasBoth hG N _ _ _ _ hc) (Nat.le_of_ble_eq_true rfl) rfl rfl rfl rfl (Nat.le_of_ble_eq_true rfl) ?_
  refine am_if_ne (tgt := 15) X dX6_go_9 (by decide) (fun c => ?_) (fun c => ?_)
  · have h := if_f h c
    refine am_iload_n X dX6_go_15 rfl rfl ?_
    refine am_iconst (v := (1 : Int32)) X dX6_go_16 (by decide) ?_
    refine am_icmp_lt (tgt := 26) X dX6_go_17 (by decide) (fun c => ?_) (fun c => ?_)
    · have h := if_t h c
      refine am_ldc (v := (-1000002 : Int32)) X dX6_go_26 (wm_r23 _ (List.mem_of_getElem? (i := 6) rfl)) ?_
      obtain rfl := Option.some.inj h
      exact am_iret X h0 dX6_go_28 rfl ⟨rfl, rfl⟩
    · have h := if_f h c
      refine am_iload_n X dX6_go_20 rfl rfl ?_
      refine am_bipush (v := (9 : Int32)) X dX6_go_21 (by decide) ?_
      refine am_icmp_le (tgt := 29) X dX6_go_23 (by decide) (fun c => ?_) (fun c => ?_)
      · have h := if_t h c
        refine am_aload_n X dX6_go_29 rfl rfl ?_
        refine am_getf (v := .ref 1) X dX6_go_30 fl_X6_12 rfl rfl (by decide) ?_
        refine am_iload_n X dX6_go_33 rfl rfl ?_
        refine am_iload_n X dX6_go_34 rfl rfl ?_
        obtain ⟨v35, σ35, hc, h⟩ := bd2_some h
        refine am_callv_i2 X dX6_go_35 cw_X6_148 (ct_X4_isOpen hG N _ _ _ _ hc) (Nat.le_of_ble_eq_true rfl) rfl rfl rfl rfl (Nat.le_of_ble_eq_true rfl) ?_
        refine am_if_eq (tgt := 75) X dX6_go_38 (by decide) (fun c => ?_) (fun c => ?_)
        · have h := if_t h c
          refine am_ldc (v := (-1000003 : Int32)) X dX6_go_75 (wm_r23 _ (List.mem_of_getElem? (i := 7) rfl)) ?_
          obtain rfl := Option.some.inj h
          exact am_iret X h0 dX6_go_77 rfl ⟨rfl, rfl⟩
        · have h := if_f h c
          refine am_aload_n X dX6_go_41 rfl rfl ?_
          refine am_getf (v := .ref 1) X dX6_go_42 fl_X6_12 rfl rfl (by decide) ?_
          refine am_getf (v := .ref 13) X dX6_go_45 fl_X6_111 rfl rfl (by decide) ?_
          refine am_iload_n X dX6_go_48 rfl rfl ?_
          obtain ⟨g, h⟩ := gd_some h
          refine am_iald X dX6_go_49 rfl g ?_
          refine am_iload_n X dX6_go_50 rfl rfl ?_
          refine am_iadd X dX6_go_51 ?_
          refine am_sipush (v := (9999 : Int32)) X dX6_go_52 (by decide) ?_
          refine am_icmp_gt (tgt := 75) X dX6_go_55 (by decide) (fun c => ?_) (fun c => ?_)
          · have h := if_t h c
            refine am_ldc (v := (-1000003 : Int32)) X dX6_go_75 (wm_r23 _ (List.mem_of_getElem? (i := 7) rfl)) ?_
            obtain rfl := Option.some.inj h
            exact am_iret X h0 dX6_go_77 rfl ⟨rfl, rfl⟩
          · have h := if_f h c
            refine am_aload_n X dX6_go_58 rfl rfl ?_
            refine am_getf (v := .ref 1) X dX6_go_59 fl_X6_12 rfl rfl (by decide) ?_
            refine am_getf (v := .ref 12) X dX6_go_62 fl_X6_108 rfl rfl (by decide) ?_
            refine am_iload_n X dX6_go_65 rfl rfl ?_
            obtain ⟨g, h⟩ := gd_some h
            refine am_iald X dX6_go_66 rfl g ?_
            refine am_iload_n X dX6_go_67 rfl rfl ?_
            refine am_iadd X dX6_go_68 ?_
            refine am_sipush (v := (9999 : Int32)) X dX6_go_69 (by decide) ?_
            refine am_icmp_le (tgt := 78) X dX6_go_72 (by decide) (fun c => ?_) (fun c => ?_)
            · have h := if_t h c
              refine am_aload_n X dX6_go_78 rfl rfl ?_
              refine am_getf (v := .ref 1) X dX6_go_79 fl_X6_12 rfl rfl (by decide) ?_
              refine am_getf (v := .ref 13) X dX6_go_82 fl_X6_111 rfl rfl (by decide) ?_
              refine am_iload_n X dX6_go_85 rfl rfl ?_
              refine am_dup2 X dX6_go_86 rfl rfl ?_
              obtain ⟨g, h⟩ := gd_some h
              refine am_iald X dX6_go_87 rfl g ?_
              refine am_iload_n X dX6_go_88 rfl rfl ?_
              refine am_iadd X dX6_go_89 ?_
              obtain ⟨g, h⟩ := gd_some h
              refine am_iast X dX6_go_90 rfl g ?_
              refine am_tops h (fun σ90 h => ?_)
              refine am_aload_n X dX6_go_91 rfl rfl ?_
              refine am_getf (v := .ref 1) X dX6_go_92 fl_X6_12 rfl rfl (by decide) ?_
              refine am_getf (v := .ref 12) X dX6_go_95 fl_X6_108 rfl rfl (by decide) ?_
              refine am_iload_n X dX6_go_98 rfl rfl ?_
              refine am_dup2 X dX6_go_99 rfl rfl ?_
              obtain ⟨g, h⟩ := gd_some h
              refine am_iald X dX6_go_100 rfl g ?_
              refine am_iload_n X dX6_go_101 rfl rfl ?_
              refine am_iadd X dX6_go_102 ?_
              obtain ⟨g, h⟩ := gd_some h
              refine am_iast X dX6_go_103 rfl g ?_
              refine am_tops h (fun σ103 h => ?_)
              refine am_aload_n X dX6_go_104 rfl rfl ?_
              refine am_getf (v := .ref 1) X dX6_go_105 fl_X6_12 rfl rfl (by decide) ?_
              refine am_iload_n X dX6_go_108 rfl rfl ?_
              obtain ⟨v109, σ109, hc, h⟩ := bd2_some h
              refine am_callv_i1 X dX6_go_109 cw_X6_114 (ct_X4_uneven hG N _ _ _ hc) (Nat.le_of_ble_eq_true rfl) rfl rfl rfl rfl (Nat.le_of_ble_eq_true rfl) ?_
              obtain rfl := Option.some.inj h
              exact am_iret X h0 dX6_go_112 rfl ⟨rfl, rfl⟩
            · have h := if_f h c
              refine am_ldc (v := (-1000003 : Int32)) X dX6_go_75 (wm_r23 _ (List.mem_of_getElem? (i := 7) rfl)) ?_
              obtain rfl := Option.some.inj h
              exact am_iret X h0 dX6_go_77 rfl ⟨rfl, rfl⟩
      · have h := if_f h c
        refine am_ldc (v := (-1000002 : Int32)) X dX6_go_26 (wm_r23 _ (List.mem_of_getElem? (i := 6) rfl)) ?_
        obtain rfl := Option.some.inj h
        exact am_iret X h0 dX6_go_28 rfl ⟨rfl, rfl⟩
  · have h := if_t h c
    refine am_ldc (v := (-1000001 : Int32)) X dX6_go_12 (wm_r16 _ (List.mem_of_getElem? (i := 22) rfl)) ?_
    obtain rfl := Option.some.inj h
    exact am_iret X h0 dX6_go_14 rfl ⟨rfl, rfl⟩
set_option maxRecDepth 100000 in
set_option maxHeartbeats 4000000 in
theorem ct_X5_copyFrom {G : Cx} (hG : am_G G) (N : Nat) (σ : Sg) (r : Sg) (h : f_X5_copyFrom N σ = some r) : am_Ct G 1 yX5_copyFrom mX5_copyFrom [.ref 4, .ref 3] σ (am_qv r) := by
  refine am_enter hG rfl rfl (Nat.le_of_ble_eq_true rfl) ?_
  intro K h0 X
  unfold f_X5_copyFrom at h
  refine am_jump (pc' := 0) (ls' := [some (.ref 4), some (.ref 3)]) ?_ rfl ⟨rfl, rfl, trivial⟩
  refine am_aload_n X dX5_copyFrom_0 rfl rfl ?_
  refine am_aload_n X dX5_copyFrom_1 rfl rfl ?_
  refine am_getf (v := .int (rg σ 3 0)) X dX5_copyFrom_2 fl_X5_27 rfl rfl (by decide) ?_
  refine am_putfi X dX5_copyFrom_5 fp_X5_27 rfl rfl ?_
  refine am_tops h (fun σ5 h => ?_)
  refine am_aload_n X dX5_copyFrom_8 rfl rfl ?_
  refine am_aload_n X dX5_copyFrom_9 rfl rfl ?_
  refine am_getf (v := .int (rg σ5 3 4)) X dX5_copyFrom_10 fl_X5_31 rfl rfl (by decide) ?_
  refine am_putfi X dX5_copyFrom_13 fp_X5_31 rfl rfl ?_
  refine am_tops h (fun σ13 h => ?_)
  refine am_aload_n X dX5_copyFrom_16 rfl rfl ?_
  refine am_getf (v := .ref 26) X dX5_copyFrom_17 fl_X5_9 rfl rfl (by decide) ?_
  refine am_iconst (v := (0 : Int32)) X dX5_copyFrom_20 (by decide) ?_
  refine am_aload_n X dX5_copyFrom_21 rfl rfl ?_
  refine am_getf (v := .ref 31) X dX5_copyFrom_22 fl_X5_9 rfl rfl (by decide) ?_
  refine am_iconst (v := (0 : Int32)) X dX5_copyFrom_25 (by decide) ?_
  refine am_bipush (v := (10 : Int32)) X dX5_copyFrom_26 (by decide) ?_
  refine am_copyi (n := 10) X dX5_copyFrom_28 (wm_r12 _ (List.mem_of_getElem? (i := 10) rfl)) rfl rfl (by decide) (by decide) (by decide) ⟨Nat.le_add_left 1 _, Nat.le_of_ble_eq_true rfl⟩ ?_
  refine am_tops h (fun σ28 h => ?_)
  refine am_aload_n X dX5_copyFrom_31 rfl rfl ?_
  refine am_getf (v := .ref 27) X dX5_copyFrom_32 fl_X5_15 rfl rfl (by decide) ?_
  refine am_iconst (v := (0 : Int32)) X dX5_copyFrom_35 (by decide) ?_
  refine am_aload_n X dX5_copyFrom_36 rfl rfl ?_
  refine am_getf (v := .ref 32) X dX5_copyFrom_37 fl_X5_15 rfl rfl (by decide) ?_
  refine am_iconst (v := (0 : Int32)) X dX5_copyFrom_40 (by decide) ?_
  refine am_bipush (v := (10 : Int32)) X dX5_copyFrom_41 (by decide) ?_
  refine am_copyi (n := 10) X dX5_copyFrom_43 (wm_r12 _ (List.mem_of_getElem? (i := 10) rfl)) rfl rfl (by decide) (by decide) (by decide) ⟨Nat.le_add_left 1 _, Nat.le_of_ble_eq_true rfl⟩ ?_
  refine am_tops h (fun σ43 h => ?_)
  refine am_aload_n X dX5_copyFrom_46 rfl rfl ?_
  refine am_getf (v := .ref 28) X dX5_copyFrom_47 fl_X5_18 rfl rfl (by decide) ?_
  refine am_iconst (v := (0 : Int32)) X dX5_copyFrom_50 (by decide) ?_
  refine am_aload_n X dX5_copyFrom_51 rfl rfl ?_
  refine am_getf (v := .ref 33) X dX5_copyFrom_52 fl_X5_18 rfl rfl (by decide) ?_
  refine am_iconst (v := (0 : Int32)) X dX5_copyFrom_55 (by decide) ?_
  refine am_bipush (v := (11 : Int32)) X dX5_copyFrom_56 (by decide) ?_
  refine am_copyi (n := 11) X dX5_copyFrom_58 (wm_r12 _ (List.mem_of_getElem? (i := 10) rfl)) rfl rfl (by decide) (by decide) (by decide) ⟨Nat.le_add_left 1 _, Nat.le_of_ble_eq_true rfl⟩ ?_
  refine am_tops h (fun σ58 h => ?_)
  refine am_aload_n X dX5_copyFrom_61 rfl rfl ?_
  refine am_getf (v := .ref 29) X dX5_copyFrom_62 fl_X5_21 rfl rfl (by decide) ?_
  refine am_iconst (v := (0 : Int32)) X dX5_copyFrom_65 (by decide) ?_
  refine am_aload_n X dX5_copyFrom_66 rfl rfl ?_
  refine am_getf (v := .ref 34) X dX5_copyFrom_67 fl_X5_21 rfl rfl (by decide) ?_
  refine am_iconst (v := (0 : Int32)) X dX5_copyFrom_70 (by decide) ?_
  refine am_bipush (v := (100 : Int32)) X dX5_copyFrom_71 (by decide) ?_
  refine am_copyi (n := 100) X dX5_copyFrom_73 (wm_r12 _ (List.mem_of_getElem? (i := 10) rfl)) rfl rfl (by decide) (by decide) (by decide) ⟨Nat.le_add_left 1 _, Nat.le_of_ble_eq_true rfl⟩ ?_
  refine am_tops h (fun σ73 h => ?_)
  obtain rfl := Option.some.inj h
  exact am_vret X h0 dX5_copyFrom_76 rfl ⟨rfl, rfl⟩
set_option maxRecDepth 100000 in
set_option maxHeartbeats 4000000 in
theorem ct_X4_copyFrom {G : Cx} (hG : am_G G) (N : Nat) (σ : Sg) (r : Sg) (h : f_X4_copyFrom N σ = some r) : am_Ct G 2 yX4_copyFrom mX4_copyFrom [.ref 2, .ref 1] σ (am_qv r) := by
  refine am_enter hG rfl rfl (Nat.le_of_ble_eq_true rfl) ?_
  intro K h0 X
  unfold f_X4_copyFrom at h
  refine am_jump (pc' := 0) (ls' := [some (.ref 2), some (.ref 1)]) ?_ rfl ⟨rfl, rfl, trivial⟩
  refine am_aload_n X dX4_copyFrom_0 rfl rfl ?_
  refine am_aload_n X dX4_copyFrom_1 rfl rfl ?_
  refine am_getf (v := .int (rg σ 1 0)) X dX4_copyFrom_2 fl_X4_43 rfl rfl (by decide) ?_
  refine am_putfi X dX4_copyFrom_5 fp_X4_43 rfl rfl ?_
  refine am_tops h (fun σ5 h => ?_)
  refine am_aload_n X dX4_copyFrom_8 rfl rfl ?_
  refine am_getf (v := .ref 10) X dX4_copyFrom_9 fl_X4_9 rfl rfl (by decide) ?_
  refine am_iconst (v := (0 : Int32)) X dX4_copyFrom_12 (by decide) ?_
  refine am_aload_n X dX4_copyFrom_13 rfl rfl ?_
  refine am_getf (v := .ref 18) X dX4_copyFrom_14 fl_X4_9 rfl rfl (by decide) ?_
  refine am_iconst (v := (0 : Int32)) X dX4_copyFrom_17 (by decide) ?_
  refine am_bipush (v := (7 : Int32)) X dX4_copyFrom_18 (by decide) ?_
  refine am_copyi (n := 7) X dX4_copyFrom_20 (wm_r40 _ (List.mem_of_getElem? (i := 9) rfl)) rfl rfl (by decide) (by decide) (by decide) ⟨Nat.le_add_left 1 _, Nat.le_of_ble_eq_true rfl⟩ ?_
  refine am_tops h (fun σ20 h => ?_)
  refine am_aload_n X dX4_copyFrom_23 rfl rfl ?_
  refine am_getf (v := .ref 11) X dX4_copyFrom_24 fl_X4_15 rfl rfl (by decide) ?_
  refine am_iconst (v := (0 : Int32)) X dX4_copyFrom_27 (by decide) ?_
  refine am_aload_n X dX4_copyFrom_28 rfl rfl ?_
  refine am_getf (v := .ref 19) X dX4_copyFrom_29 fl_X4_15 rfl rfl (by decide) ?_
  refine am_iconst (v := (0 : Int32)) X dX4_copyFrom_32 (by decide) ?_
  refine am_bipush (v := (7 : Int32)) X dX4_copyFrom_33 (by decide) ?_
  refine am_copyi (n := 7) X dX4_copyFrom_35 (wm_r40 _ (List.mem_of_getElem? (i := 9) rfl)) rfl rfl (by decide) (by decide) (by decide) ⟨Nat.le_add_left 1 _, Nat.le_of_ble_eq_true rfl⟩ ?_
  refine am_tops h (fun σ35 h => ?_)
  refine am_aload_n X dX4_copyFrom_38 rfl rfl ?_
  refine am_getf (v := .ref 12) X dX4_copyFrom_39 fl_X4_18 rfl rfl (by decide) ?_
  refine am_iconst (v := (0 : Int32)) X dX4_copyFrom_42 (by decide) ?_
  refine am_aload_n X dX4_copyFrom_43 rfl rfl ?_
  refine am_getf (v := .ref 20) X dX4_copyFrom_44 fl_X4_18 rfl rfl (by decide) ?_
  refine am_iconst (v := (0 : Int32)) X dX4_copyFrom_47 (by decide) ?_
  refine am_bipush (v := (7 : Int32)) X dX4_copyFrom_48 (by decide) ?_
  refine am_copyi (n := 7) X dX4_copyFrom_50 (wm_r40 _ (List.mem_of_getElem? (i := 9) rfl)) rfl rfl (by decide) (by decide) (by decide) ⟨Nat.le_add_left 1 _, Nat.le_of_ble_eq_true rfl⟩ ?_
  refine am_tops h (fun σ50 h => ?_)
  refine am_aload_n X dX4_copyFrom_53 rfl rfl ?_
  refine am_getf (v := .ref 13) X dX4_copyFrom_54 fl_X4_21 rfl rfl (by decide) ?_
  refine am_iconst (v := (0 : Int32)) X dX4_copyFrom_57 (by decide) ?_
  refine am_aload_n X dX4_copyFrom_58 rfl rfl ?_
  refine am_getf (v := .ref 21) X dX4_copyFrom_59 fl_X4_21 rfl rfl (by decide) ?_
  refine am_iconst (v := (0 : Int32)) X dX4_copyFrom_62 (by decide) ?_
  refine am_bipush (v := (7 : Int32)) X dX4_copyFrom_63 (by decide) ?_
  refine am_copyi (n := 7) X dX4_copyFrom_65 (wm_r40 _ (List.mem_of_getElem? (i := 9) rfl)) rfl rfl (by decide) (by decide) (by decide) ⟨Nat.le_add_left 1 _, Nat.le_of_ble_eq_true rfl⟩ ?_
  refine am_tops h (fun σ65 h => ?_)
  refine am_aload_n X dX4_copyFrom_68 rfl rfl ?_
  refine am_getf (v := .ref 14) X dX4_copyFrom_69 fl_X4_24 rfl rfl (by decide) ?_
  refine am_iconst (v := (0 : Int32)) X dX4_copyFrom_72 (by decide) ?_
  refine am_aload_n X dX4_copyFrom_73 rfl rfl ?_
  refine am_getf (v := .ref 22) X dX4_copyFrom_74 fl_X4_24 rfl rfl (by decide) ?_
  refine am_iconst (v := (0 : Int32)) X dX4_copyFrom_77 (by decide) ?_
  refine am_bipush (v := (7 : Int32)) X dX4_copyFrom_78 (by decide) ?_
  refine am_copyi (n := 7) X dX4_copyFrom_80 (wm_r40 _ (List.mem_of_getElem? (i := 9) rfl)) rfl rfl (by decide) (by decide) (by decide) ⟨Nat.le_add_left 1 _, Nat.le_of_ble_eq_true rfl⟩ ?_
  refine am_tops h (fun σ80 h => ?_)
  refine am_aload_n X dX4_copyFrom_83 rfl rfl ?_
  refine am_aload_n X dX4_copyFrom_84 rfl rfl ?_
  refine am_getf (v := .int (rg σ80 1 6)) X dX4_copyFrom_85 fl_X4_53 rfl rfl (by decide) ?_
  refine am_putfi X dX4_copyFrom_88 fp_X4_53 rfl rfl ?_
  refine am_tops h (fun σ88 h => ?_)
  refine am_aload_n X dX4_copyFrom_91 rfl rfl ?_
  refine am_aload_n X dX4_copyFrom_92 rfl rfl ?_
  refine am_getf (v := .int (rg σ88 1 7)) X dX4_copyFrom_93 fl_X4_56 rfl rfl (by decide) ?_
  refine am_putfi X dX4_copyFrom_96 fp_X4_56 rfl rfl ?_
  refine am_tops h (fun σ96 h => ?_)
  refine am_aload_n X dX4_copyFrom_99 rfl rfl ?_
  refine am_getf (v := .ref 15) X dX4_copyFrom_100 fl_X4_27 rfl rfl (by decide) ?_
  refine am_iconst (v := (0 : Int32)) X dX4_copyFrom_103 (by decide) ?_
  refine am_aload_n X dX4_copyFrom_104 rfl rfl ?_
  refine am_getf (v := .ref 23) X dX4_copyFrom_105 fl_X4_27 rfl rfl (by decide) ?_
  refine am_iconst (v := (0 : Int32)) X dX4_copyFrom_108 (by decide) ?_
  refine am_bipush (v := (100 : Int32)) X dX4_copyFrom_109 (by decide) ?_
  refine am_copyi (n := 100) X dX4_copyFrom_111 (wm_r40 _ (List.mem_of_getElem? (i := 9) rfl)) rfl rfl (by decide) (by decide) (by decide) ⟨Nat.le_add_left 1 _, Nat.le_of_ble_eq_true rfl⟩ ?_
  refine am_tops h (fun σ111 h => ?_)
  refine am_aload_n X dX4_copyFrom_114 rfl rfl ?_
  refine am_aload_n X dX4_copyFrom_115 rfl rfl ?_
  refine am_getf (v := .int (rg σ111 1 9)) X dX4_copyFrom_116 fl_X4_59 rfl rfl (by decide) ?_
  refine am_putfi X dX4_copyFrom_119 fp_X4_59 rfl rfl ?_
  refine am_tops h (fun σ119 h => ?_)
  refine am_aload_n X dX4_copyFrom_122 rfl rfl ?_
  refine am_getf (v := .ref 4) X dX4_copyFrom_123 fl_X4_33 rfl rfl (by decide) ?_
  refine am_aload_n X dX4_copyFrom_126 rfl rfl ?_
  refine am_getf (v := .ref 3) X dX4_copyFrom_127 fl_X4_33 rfl rfl (by decide) ?_
  obtain ⟨σ130, hc, h⟩ := bd_some h
  refine am_callv_v1 X dX4_copyFrom_130 cw_X4_62 (ct_X5_copyFrom hG N _ _ hc) (Nat.le_of_ble_eq_true rfl) rfl rfl rfl rfl (Nat.le_of_ble_eq_true rfl) ?_
  refine am_aload_n X dX4_copyFrom_133 rfl rfl ?_
  refine am_aload_n X dX4_copyFrom_134 rfl rfl ?_
  refine am_getf (v := .int (rg σ130 1 11)) X dX4_copyFrom_135 fl_X4_66 rfl rfl (by decide) ?_
  refine am_putfi X dX4_copyFrom_138 fp_X4_66 rfl rfl ?_
  refine am_tops h (fun σ138 h => ?_)
  refine am_aload_n X dX4_copyFrom_141 rfl rfl ?_
  refine am_getf (v := .ref 16) X dX4_copyFrom_142 fl_X4_37 rfl rfl (by decide) ?_
  refine am_iconst (v := (0 : Int32)) X dX4_copyFrom_145 (by decide) ?_
  refine am_aload_n X dX4_copyFrom_146 rfl rfl ?_
  refine am_getf (v := .ref 24) X dX4_copyFrom_147 fl_X4_37 rfl rfl (by decide) ?_
  refine am_iconst (v := (0 : Int32)) X dX4_copyFrom_150 (by decide) ?_
  refine am_bipush (v := (7 : Int32)) X dX4_copyFrom_151 (by decide) ?_
  refine am_copyi (n := 7) X dX4_copyFrom_153 (wm_r40 _ (List.mem_of_getElem? (i := 9) rfl)) rfl rfl (by decide) (by decide) (by decide) ⟨Nat.le_add_left 1 _, Nat.le_of_ble_eq_true rfl⟩ ?_
  refine am_tops h (fun σ153 h => ?_)
  refine am_aload_n X dX4_copyFrom_156 rfl rfl ?_
  refine am_getf (v := .ref 17) X dX4_copyFrom_157 fl_X4_40 rfl rfl (by decide) ?_
  refine am_iconst (v := (0 : Int32)) X dX4_copyFrom_160 (by decide) ?_
  refine am_aload_n X dX4_copyFrom_161 rfl rfl ?_
  refine am_getf (v := .ref 25) X dX4_copyFrom_162 fl_X4_40 rfl rfl (by decide) ?_
  refine am_iconst (v := (0 : Int32)) X dX4_copyFrom_165 (by decide) ?_
  refine am_bipush (v := (7 : Int32)) X dX4_copyFrom_166 (by decide) ?_
  refine am_copyi (n := 7) X dX4_copyFrom_168 (wm_r40 _ (List.mem_of_getElem? (i := 9) rfl)) rfl rfl (by decide) (by decide) (by decide) ⟨Nat.le_add_left 1 _, Nat.le_of_ble_eq_true rfl⟩ ?_
  refine am_tops h (fun σ168 h => ?_)
  obtain rfl := Option.some.inj h
  exact am_vret X h0 dX4_copyFrom_171 rfl ⟨rfl, rfl⟩
set_option maxRecDepth 100000 in
set_option maxHeartbeats 4000000 in
theorem ct_X6_image {G : Cx} (hG : am_G G) (N : Nat) (σ : Sg) (r : Int32 × Sg) (h : f_X6_image N σ = some r) : am_Ct G 3 yX6_image mX6_image [.ref 0] σ (am_qi r.1 r.2) := by
  refine am_enter hG rfl rfl (Nat.le_of_ble_eq_true rfl) ?_
  intro K h0 X
  unfold f_X6_image at h
  refine am_jump (pc' := 0) (ls' := [some (.ref 0)]) ?_ rfl ⟨rfl, trivial⟩
  refine am_aload_n X dX6_image_0 rfl rfl ?_
  refine am_getf (v := .ref 2) X dX6_image_1 fl_X6_18 rfl rfl (by decide) ?_
  refine am_aload_n X dX6_image_4 rfl rfl ?_
  refine am_getf (v := .ref 1) X dX6_image_5 fl_X6_12 rfl rfl (by decide) ?_
  obtain ⟨σ8, hc, h⟩ := bd_some h
  refine am_callv_v1 X dX6_image_8 cw_X6_224 (ct_X4_copyFrom hG N _ _ hc) (Nat.le_of_ble_eq_true rfl) rfl rfl rfl rfl (Nat.le_of_ble_eq_true rfl) ?_
  refine am_aload_n X dX6_image_11 rfl rfl ?_
  refine am_iconst (v := (1 : Int32)) X dX6_image_12 (by decide) ?_
  refine am_putfz X dX6_image_13 fp_X6_21 rfl rfl (by decide) ?_
  refine am_tops h (fun σ13 h => ?_)
  refine am_aload_n X dX6_image_16 rfl rfl ?_
  refine am_getf (v := .ref 1) X dX6_image_17 fl_X6_12 rfl rfl (by decide) ?_
  refine am_getf (v := .int (rg σ13 1 0)) X dX6_image_20 fl_X6_84 rfl rfl (by decide) ?_
  obtain rfl := Option.some.inj h
  exact am_iret X h0 dX6_image_23 rfl ⟨rfl, rfl⟩
set_option maxRecDepth 100000 in
set_option maxHeartbeats 4000000 in
theorem ct_X6_lead {G : Cx} (hG : am_G G) (N : Nat) (x1 : Int32) (x2 : Int32) (x3 : Int32) (σ : Sg) (r : Int32 × Sg) (h : f_X6_lead N x1 x2 x3 σ = some r) : am_Ct G 4 yX6_lead mX6_lead [.ref 0, .int x1, .int x2, .int x3] σ (am_qi r.1 r.2) := by
  refine am_enter hG rfl rfl (Nat.le_of_ble_eq_true rfl) ?_
  intro K h0 X
  unfold f_X6_lead at h
  refine am_jump (pc' := 0) (ls' := [some (.ref 0), some (.int x1), some (.int x2), some (.int x3), none, none]) ?_ rfl ⟨rfl, rfl, rfl, rfl, trivial⟩
  refine am_aload_n X dX6_lead_0 rfl rfl ?_
  refine am_iload_n X dX6_lead_1 rfl rfl ?_
  refine am_iload_n X dX6_lead_2 rfl rfl ?_
  obtain ⟨v3, σ3, hc, h⟩ := bd2_some h
  refine am_callv_i2 X dX6_lead_3 cw_X6_91 (ct_X6_refusalOfTwo hG N _ _ _ _ hc) (Nat.le_of_ble_eq_true rfl) rfl rfl rfl rfl (Nat.le_of_ble_eq_true rfl) ?_
  refine am_istore (ls' := [some (.ref 0), some (.int x1), some (.int x2), some (.int x3), some (.int v3), none]) X dX6_lead_6 (by decide)  rfl rfl ?_
  refine am_iload X dX6_lead_8 rfl ?_
  refine am_if_ge (tgt := 16) X dX6_lead_10 (by decide) (fun c => ?_) (fun c => ?_)
  · have h := if_t h c
    refine am_aload_n X dX6_lead_16 rfl rfl ?_
    refine am_getf (v := .ref 1) X dX6_lead_17 fl_X6_12 rfl rfl (by decide) ?_
    refine am_getf (v := .ref 14) X dX6_lead_20 fl_X6_94 rfl rfl (by decide) ?_
    refine am_iload_n X dX6_lead_23 rfl rfl ?_
    obtain ⟨g, h⟩ := gd_some h
    refine am_iald X dX6_lead_24 rfl g ?_
    refine am_iload_n X dX6_lead_25 rfl rfl ?_
    refine am_ishr X dX6_lead_26 ?_
    refine am_iconst (v := (1 : Int32)) X dX6_lead_27 (by decide) ?_
    refine am_iand X dX6_lead_28 ?_
    refine am_topi h (fun x5_29 h => ?_)
    refine am_istore (ls' := [some (.ref 0), some (.int x1), some (.int x2), some (.int x3), some (.int v3), some (.int x5_29)]) X dX6_lead_29 (by decide)  rfl rfl ?_
    refine am_iload_n X dX6_lead_31 rfl rfl ?_
    refine am_if_eq (tgt := 53) X dX6_lead_32 (by decide) (fun c => ?_) (fun c => ?_)
    · have h := if_t h c
      refine am_aload_n X dX6_lead_53 rfl rfl ?_
      refine am_getf (v := .ref 1) X dX6_lead_54 fl_X6_12 rfl rfl (by decide) ?_
      refine am_getf (v := .ref 14) X dX6_lead_57 fl_X6_94 rfl rfl (by decide) ?_
      refine am_iload_n X dX6_lead_60 rfl rfl ?_
      refine am_dup2 X dX6_lead_61 rfl rfl ?_
      obtain ⟨g, h⟩ := gd_some h
      refine am_iald X dX6_lead_62 rfl g ?_
      refine am_iconst (v := (1 : Int32)) X dX6_lead_63 (by decide) ?_
      refine am_iload_n X dX6_lead_64 rfl rfl ?_
      refine am_ishl X dX6_lead_65 ?_
      refine am_iconst (v := (-1 : Int32)) X dX6_lead_66 (by decide) ?_
      refine am_ixor X dX6_lead_67 ?_
      refine am_iand X dX6_lead_68 ?_
      obtain ⟨g, h⟩ := gd_some h
      refine am_iast X dX6_lead_69 rfl g ?_
      refine am_tops h (fun σ69 h => ?_)
      refine am_iload X dX6_lead_70 rfl ?_
      obtain rfl := Option.some.inj h
      exact am_iret X h0 dX6_lead_72 rfl ⟨rfl, rfl⟩
    · have h := if_f h c
      refine am_aload_n X dX6_lead_35 rfl rfl ?_
      refine am_getf (v := .ref 1) X dX6_lead_36 fl_X6_12 rfl rfl (by decide) ?_
      refine am_getf (v := .ref 14) X dX6_lead_39 fl_X6_94 rfl rfl (by decide) ?_
      refine am_iload_n X dX6_lead_42 rfl rfl ?_
      refine am_dup2 X dX6_lead_43 rfl rfl ?_
      obtain ⟨g, h⟩ := gd_some h
      refine am_iald X dX6_lead_44 rfl g ?_
      refine am_iconst (v := (1 : Int32)) X dX6_lead_45 (by decide) ?_
      refine am_iload_n X dX6_lead_46 rfl rfl ?_
      refine am_ishl X dX6_lead_47 ?_
      refine am_ior X dX6_lead_48 ?_
      obtain ⟨g, h⟩ := gd_some h
      refine am_iast X dX6_lead_49 rfl g ?_
      refine am_tops h (fun σ49 h => ?_)
      refine am_goto (tgt := 70) X dX6_lead_50 (by decide) ?_
      refine am_iload X dX6_lead_70 rfl ?_
      obtain rfl := Option.some.inj h
      exact am_iret X h0 dX6_lead_72 rfl ⟨rfl, rfl⟩
  · have h := if_f h c
    refine am_iload X dX6_lead_13 rfl ?_
    obtain rfl := Option.some.inj h
    exact am_iret X h0 dX6_lead_15 rfl ⟨rfl, rfl⟩
set_option maxRecDepth 100000 in
set_option maxHeartbeats 4000000 in
theorem ct_X6_need {G : Cx} (hG : am_G G) (N : Nat) (x1 : Int32) (x2 : Int32) (σ : Sg) (r : Int32 × Sg) (h : f_X6_need N x1 x2 σ = some r) : am_Ct G 6 yX6_need mX6_need [.ref 0, .int x1, .int x2] σ (am_qi r.1 r.2) := by
  refine am_enter hG rfl rfl (Nat.le_of_ble_eq_true rfl) ?_
  intro K h0 X
  unfold f_X6_need at h
  refine am_jump (pc' := 0) (ls' := [some (.ref 0), some (.int x1), some (.int x2), none, none]) ?_ rfl ⟨rfl, rfl, rfl, trivial⟩
  refine am_aload_n X dX6_need_0 rfl rfl ?_
  refine am_iload_n X dX6_need_1 rfl rfl ?_
  refine am_iload_n X dX6_need_2 rfl rfl ?_
  obtain ⟨v3, σ3, hc, h⟩ := bd2_some h
  refine am_callv_i2 X dX6_need_3 cw_X6_91 (ct_X6_refusalOfTwo hG N _ _ _ _ hc) (Nat.le_of_ble_eq_true rfl) rfl rfl rfl rfl (Nat.le_of_ble_eq_true rfl) ?_
  refine am_istore_n (ls' := [some (.ref 0), some (.int x1), some (.int x2), some (.int v3), none]) X dX6_need_6 rfl (by decide)  rfl rfl ?_
  refine am_iload_n X dX6_need_7 rfl rfl ?_
  refine am_if_ge (tgt := 13) X dX6_need_8 (by decide) (fun c => ?_) (fun c => ?_)
  · have h := if_t h c
    refine am_aload_n X dX6_need_13 rfl rfl ?_
    refine am_getf (v := .ref 7) X dX6_need_14 fl_X6_35 rfl rfl (by decide) ?_
    refine am_aload_n X dX6_need_17 rfl rfl ?_
    refine am_getf (v := .ref 1) X dX6_need_18 fl_X6_12 rfl rfl (by decide) ?_
    obtain ⟨σ21, hc, h⟩ := bd_some h
    refine am_callv_v1 X dX6_need_21 cw_X6_152 (ct_X1_load hG N _ _ hc) (Nat.le_of_ble_eq_true rfl) rfl rfl rfl rfl (Nat.le_of_ble_eq_true rfl) ?_
    refine am_aload_n X dX6_need_24 rfl rfl ?_
    refine am_getf (v := .ref 7) X dX6_need_25 fl_X6_35 rfl rfl (by decide) ?_
    refine am_iconst (v := (1 : Int32)) X dX6_need_28 (by decide) ?_
    obtain ⟨v29, σ29, hc, h⟩ := bd2_some h
    refine am_callv_i1 X dX6_need_29 cw_X6_156 (ct_X1_solve hG N _ _ _ hc) (Nat.le_of_ble_eq_true rfl) rfl rfl rfl rfl (Nat.le_of_ble_eq_true rfl) ?_
    refine am_istore (ls' := [some (.ref 0), some (.int x1), some (.int x2), some (.int v3), some (.int v29)]) X dX6_need_32 (by decide)  rfl rfl ?_
    refine am_aload_n X dX6_need_34 rfl rfl ?_
    refine am_getf (v := .ref 7) X dX6_need_35 fl_X6_35 rfl rfl (by decide) ?_
    refine am_getf (v := .ref 42) X dX6_need_38 fl_X6_162 rfl rfl (by decide) ?_
    refine am_iload_n X dX6_need_41 rfl rfl ?_
    refine am_dup2 X dX6_need_42 rfl rfl ?_
    obtain ⟨g, h⟩ := gd_some h
    refine am_iald X dX6_need_43 rfl g ?_
    refine am_iconst (v := (1 : Int32)) X dX6_need_44 (by decide) ?_
    refine am_iload_n X dX6_need_45 rfl rfl ?_
    refine am_ishl X dX6_need_46 ?_
    refine am_iconst (v := (-1 : Int32)) X dX6_need_47 (by decide) ?_
    refine am_ixor X dX6_need_48 ?_
    refine am_iand X dX6_need_49 ?_
    obtain ⟨g, h⟩ := gd_some h
    refine am_iast X dX6_need_50 rfl g ?_
    refine am_tops h (fun σ50 h => ?_)
    refine am_aload_n X dX6_need_51 rfl rfl ?_
    refine am_getf (v := .ref 7) X dX6_need_52 fl_X6_35 rfl rfl (by decide) ?_
    refine am_iconst (v := (1 : Int32)) X dX6_need_55 (by decide) ?_
    obtain ⟨v56, σ56, hc, h⟩ := bd2_some h
    refine am_callv_i1 X dX6_need_56 cw_X6_156 (ct_X1_solve hG N _ _ _ hc) (Nat.le_of_ble_eq_true rfl) rfl rfl rfl rfl (Nat.le_of_ble_eq_true rfl) ?_
    refine am_iload X dX6_need_59 rfl ?_
    refine am_isub X dX6_need_61 ?_
    obtain rfl := Option.some.inj h
    exact am_iret X h0 dX6_need_62 rfl ⟨rfl, rfl⟩
  · have h := if_f h c
    refine am_iload_n X dX6_need_11 rfl rfl ?_
    obtain rfl := Option.some.inj h
    exact am_iret X h0 dX6_need_12 rfl ⟨rfl, rfl⟩
set_option maxRecDepth 100000 in
set_option maxHeartbeats 4000000 in
theorem ct_X4_pays {G : Cx} (hG : am_G G) (N : Nat) (x1 : Int32) (σ : Sg) (r : Int32 × Sg) (h : f_X4_pays N x1 σ = some r) : am_Ct G 5 yX4_pays mX4_pays [.ref 1, .int x1] σ (am_qi r.1 r.2) := by
  refine am_enter hG rfl rfl (Nat.le_of_ble_eq_true rfl) ?_
  intro K h0 X
  unfold f_X4_pays at h
  refine am_jump (pc' := 0) (ls' := [some (.ref 1), some (.int x1), none]) ?_ rfl ⟨rfl, rfl, trivial⟩
  refine am_aload_n X dX4_pays_0 rfl rfl ?_
  refine am_iload_n X dX4_pays_1 rfl rfl ?_
  obtain ⟨v2, σ2, hc, h⟩ := bd2_some h
  refine am_callv_i1 X dX4_pays_2 cw_X4_81 (ct_X4_uneven hG N _ _ _ hc) (Nat.le_of_ble_eq_true rfl) rfl rfl rfl rfl (Nat.le_of_ble_eq_true rfl) ?_
  refine am_abs X dX4_pays_5 (wm_r19 _ (List.mem_of_getElem? (i := 7) rfl)) ⟨Nat.le_add_left 1 _, Nat.le_of_ble_eq_true rfl⟩ ?_
  refine am_aload_n X dX4_pays_8 rfl rfl ?_
  refine am_iload_n X dX4_pays_9 rfl rfl ?_
  obtain ⟨v10, σ10, hc, h⟩ := bd2_some h
  refine am_callv_i1 X dX4_pays_10 cw_X4_90 (ct_X4_allowed hG N _ _ _ hc) (Nat.le_of_ble_eq_true rfl) rfl rfl rfl rfl (Nat.le_of_ble_eq_true rfl) ?_
  refine am_isub X dX4_pays_13 ?_
  refine am_topi h (fun x2_14 h => ?_)
  refine am_istore_n (ls' := [some (.ref 1), some (.int x1), some (.int x2_14)]) X dX4_pays_14 rfl (by decide)  rfl rfl ?_
  refine am_iload_n X dX4_pays_15 rfl rfl ?_
  refine am_if_le (tgt := 29) X dX4_pays_16 (by decide) (fun c => ?_) (fun c => ?_)
  · have h := if_t h c
    refine am_iconst (v := (0 : Int32)) X dX4_pays_29 (by decide) ?_
    obtain rfl := Option.some.inj h
    exact am_iret X h0 dX4_pays_30 rfl ⟨rfl, rfl⟩
  · have h := if_f h c
    refine am_aload_n X dX4_pays_19 rfl rfl ?_
    refine am_iload_n X dX4_pays_20 rfl rfl ?_
    obtain ⟨v21, σ21, hc, h⟩ := bd2_some h
    refine am_callv_i1 X dX4_pays_21 cw_X4_93 (ct_X4_fine hG N _ _ _ hc) (Nat.le_of_ble_eq_true rfl) rfl rfl rfl rfl (Nat.le_of_ble_eq_true rfl) ?_
    refine am_iload_n X dX4_pays_24 rfl rfl ?_
    refine am_imul X dX4_pays_25 ?_
    refine am_goto (tgt := 30) X dX4_pays_26 (by decide) ?_
    obtain rfl := Option.some.inj h
    exact am_iret X h0 dX4_pays_30 rfl ⟨rfl, rfl⟩
set_option maxRecDepth 100000 in
set_option maxHeartbeats 4000000 in
theorem ct_X6_of {G : Cx} (hG : am_G G) (N : Nat) (x1 : Int32) (x2 : Int32) (σ : Sg) (r : Int32 × Sg) (h : f_X6_of N x1 x2 σ = some r) : am_Ct G 6 yX6_of mX6_of [.ref 0, .int x1, .int x2] σ (am_qi r.1 r.2) := by
  refine am_enter hG rfl rfl (Nat.le_of_ble_eq_true rfl) ?_
  intro K h0 X
  unfold f_X6_of at h
  refine am_jump (pc' := 0) (ls' := [some (.ref 0), some (.int x1), some (.int x2)]) ?_ rfl ⟨rfl, rfl, rfl, trivial⟩
  refine am_aload_n X dX6_of_0 rfl rfl ?_
  refine am_getf (v := .ref 1) X dX6_of_1 fl_X6_12 rfl rfl (by decide) ?_
  refine am_iload_n X dX6_of_4 rfl rfl ?_
  obtain ⟨v5, σ5, hc, h⟩ := bd2_some h
  refine am_callv_i1 X dX6_of_5 cw_X6_97 (ct_X4_has hG N _ _ _ hc) (Nat.le_of_ble_eq_true rfl) rfl rfl rfl rfl (Nat.le_of_ble_eq_true rfl) ?_
  refine am_if_ne (tgt := 14) X dX6_of_8 (by decide) (fun c => ?_) (fun c => ?_)
  · have h := if_f h c
    refine am_iload_n X dX6_of_14 rfl rfl ?_
    by_cases c0 : x2 = (0 : Int32)
    · have h := if_t h c0
      refine am_tabIn (tgt := 72) X dX6_of_15 c0 (by decide) (by decide) rfl (by decide) ?_
      refine am_aload_n X dX6_of_72 rfl rfl ?_
      refine am_getf (v := .ref 1) X dX6_of_73 fl_X6_12 rfl rfl (by decide) ?_
      refine am_getf (v := .ref 10) X dX6_of_76 fl_X6_102 rfl rfl (by decide) ?_
      refine am_iload_n X dX6_of_79 rfl rfl ?_
      obtain ⟨g, h⟩ := gd_some h
      refine am_iald X dX6_of_80 rfl g ?_
      obtain rfl := Option.some.inj h
      exact am_iret X h0 dX6_of_81 rfl ⟨rfl, rfl⟩
    have h := if_f h c0
    by_cases c1 : x2 = (1 : Int32)
    · have h := if_t h c1
      refine am_tabIn (tgt := 82) X dX6_of_15 c1 (by decide) (by decide) rfl (by decide) ?_
      refine am_aload_n X dX6_of_82 rfl rfl ?_
      refine am_getf (v := .ref 1) X dX6_of_83 fl_X6_12 rfl rfl (by decide) ?_
      refine am_getf (v := .ref 11) X dX6_of_86 fl_X6_105 rfl rfl (by decide) ?_
      refine am_iload_n X dX6_of_89 rfl rfl ?_
      obtain ⟨g, h⟩ := gd_some h
      refine am_iald X dX6_of_90 rfl g ?_
      obtain rfl := Option.some.inj h
      exact am_iret X h0 dX6_of_91 rfl ⟨rfl, rfl⟩
    have h := if_f h c1
    by_cases c2 : x2 = (2 : Int32)
    · have h := if_t h c2
      refine am_tabIn (tgt := 92) X dX6_of_15 c2 (by decide) (by decide) rfl (by decide) ?_
      refine am_aload_n X dX6_of_92 rfl rfl ?_
      refine am_getf (v := .ref 1) X dX6_of_93 fl_X6_12 rfl rfl (by decide) ?_
      refine am_getf (v := .ref 12) X dX6_of_96 fl_X6_108 rfl rfl (by decide) ?_
      refine am_iload_n X dX6_of_99 rfl rfl ?_
      obtain ⟨g, h⟩ := gd_some h
      refine am_iald X dX6_of_100 rfl g ?_
      obtain rfl := Option.some.inj h
      exact am_iret X h0 dX6_of_101 rfl ⟨rfl, rfl⟩
    have h := if_f h c2
    by_cases c3 : x2 = (3 : Int32)
    · have h := if_t h c3
      refine am_tabIn (tgt := 102) X dX6_of_15 c3 (by decide) (by decide) rfl (by decide) ?_
      refine am_aload_n X dX6_of_102 rfl rfl ?_
      refine am_getf (v := .ref 1) X dX6_of_103 fl_X6_12 rfl rfl (by decide) ?_
      refine am_getf (v := .ref 13) X dX6_of_106 fl_X6_111 rfl rfl (by decide) ?_
      refine am_iload_n X dX6_of_109 rfl rfl ?_
      obtain ⟨g, h⟩ := gd_some h
      refine am_iald X dX6_of_110 rfl g ?_
      obtain rfl := Option.some.inj h
      exact am_iret X h0 dX6_of_111 rfl ⟨rfl, rfl⟩
    have h := if_f h c3
    by_cases c4 : x2 = (4 : Int32)
    · have h := if_t h c4
      refine am_tabIn (tgt := 112) X dX6_of_15 c4 (by decide) (by decide) rfl (by decide) ?_
      refine am_aload_n X dX6_of_112 rfl rfl ?_
      refine am_getf (v := .ref 1) X dX6_of_113 fl_X6_12 rfl rfl (by decide) ?_
      refine am_iload_n X dX6_of_116 rfl rfl ?_
      obtain ⟨v117, σ117, hc, h⟩ := bd2_some h
      refine am_callv_i1 X dX6_of_117 cw_X6_114 (ct_X4_uneven hG N _ _ _ hc) (Nat.le_of_ble_eq_true rfl) rfl rfl rfl rfl (Nat.le_of_ble_eq_true rfl) ?_
      obtain rfl := Option.some.inj h
      exact am_iret X h0 dX6_of_120 rfl ⟨rfl, rfl⟩
    have h := if_f h c4
    by_cases c5 : x2 = (5 : Int32)
    · have h := if_t h c5
      refine am_tabIn (tgt := 121) X dX6_of_15 c5 (by decide) (by decide) rfl (by decide) ?_
      refine am_aload_n X dX6_of_121 rfl rfl ?_
      refine am_getf (v := .ref 1) X dX6_of_122 fl_X6_12 rfl rfl (by decide) ?_
      refine am_iload_n X dX6_of_125 rfl rfl ?_
      obtain ⟨v126, σ126, hc, h⟩ := bd2_some h
      refine am_callv_i1 X dX6_of_126 cw_X6_118 (ct_X4_allowed hG N _ _ _ hc) (Nat.le_of_ble_eq_true rfl) rfl rfl rfl rfl (Nat.le_of_ble_eq_true rfl) ?_
      obtain rfl := Option.some.inj h
      exact am_iret X h0 dX6_of_129 rfl ⟨rfl, rfl⟩
    have h := if_f h c5
    by_cases c6 : x2 = (6 : Int32)
    · have h := if_t h c6
      refine am_tabIn (tgt := 130) X dX6_of_15 c6 (by decide) (by decide) rfl (by decide) ?_
      refine am_aload_n X dX6_of_130 rfl rfl ?_
      refine am_getf (v := .ref 1) X dX6_of_131 fl_X6_12 rfl rfl (by decide) ?_
      refine am_iload_n X dX6_of_134 rfl rfl ?_
      obtain ⟨v135, σ135, hc, h⟩ := bd2_some h
      refine am_callv_i1 X dX6_of_135 cw_X6_121 (ct_X4_fine hG N _ _ _ hc) (Nat.le_of_ble_eq_true rfl) rfl rfl rfl rfl (Nat.le_of_ble_eq_true rfl) ?_
      obtain rfl := Option.some.inj h
      exact am_iret X h0 dX6_of_138 rfl ⟨rfl, rfl⟩
    have h := if_f h c6
    by_cases c7 : x2 = (7 : Int32)
    · have h := if_t h c7
      refine am_tabIn (tgt := 139) X dX6_of_15 c7 (by decide) (by decide) rfl (by decide) ?_
      refine am_aload_n X dX6_of_139 rfl rfl ?_
      refine am_getf (v := .ref 1) X dX6_of_140 fl_X6_12 rfl rfl (by decide) ?_
      refine am_iload_n X dX6_of_143 rfl rfl ?_
      obtain ⟨v144, σ144, hc, h⟩ := bd2_some h
      refine am_callv_i1 X dX6_of_144 cw_X6_124 (ct_X4_step hG N _ _ _ hc) (Nat.le_of_ble_eq_true rfl) rfl rfl rfl rfl (Nat.le_of_ble_eq_true rfl) ?_
      obtain rfl := Option.some.inj h
      exact am_iret X h0 dX6_of_147 rfl ⟨rfl, rfl⟩
    have h := if_f h c7
    by_cases c8 : x2 = (8 : Int32)
    · have h := if_t h c8
      refine am_tabIn (tgt := 148) X dX6_of_15 c8 (by decide) (by decide) rfl (by decide) ?_
      refine am_aload_n X dX6_of_148 rfl rfl ?_
      refine am_getf (v := .ref 1) X dX6_of_149 fl_X6_12 rfl rfl (by decide) ?_
      refine am_iload_n X dX6_of_152 rfl rfl ?_
      obtain ⟨v153, σ153, hc, h⟩ := bd2_some h
      refine am_callv_i1 X dX6_of_153 cw_X6_127 (ct_X4_pays hG N _ _ _ hc) (Nat.le_of_ble_eq_true rfl) rfl rfl rfl rfl (Nat.le_of_ble_eq_true rfl) ?_
      obtain rfl := Option.some.inj h
      exact am_iret X h0 dX6_of_156 rfl ⟨rfl, rfl⟩
    have h := if_f h c8
    by_cases c9 : x2 = (9 : Int32)
    · have h := if_t h c9
      refine am_tabIn (tgt := 157) X dX6_of_15 c9 (by decide) (by decide) rfl (by decide) ?_
      refine am_aload_n X dX6_of_157 rfl rfl ?_
      refine am_getf (v := .ref 1) X dX6_of_158 fl_X6_12 rfl rfl (by decide) ?_
      refine am_getf (v := .ref 14) X dX6_of_161 fl_X6_94 rfl rfl (by decide) ?_
      refine am_iload_n X dX6_of_164 rfl rfl ?_
      obtain ⟨g, h⟩ := gd_some h
      refine am_iald X dX6_of_165 rfl g ?_
      obtain rfl := Option.some.inj h
      exact am_iret X h0 dX6_of_166 rfl ⟨rfl, rfl⟩
    have h := if_f h c9
    by_cases c10 : x2 = (10 : Int32)
    · have h := if_t h c10
      refine am_tabIn (tgt := 167) X dX6_of_15 c10 (by decide) (by decide) rfl (by decide) ?_
      refine am_aload_n X dX6_of_167 rfl rfl ?_
      refine am_getf (v := .ref 1) X dX6_of_168 fl_X6_12 rfl rfl (by decide) ?_
      refine am_iload_n X dX6_of_171 rfl rfl ?_
      obtain ⟨v172, σ172, hc, h⟩ := bd2_some h
      refine am_callv_i1 X dX6_of_172 cw_X6_130 (ct_X4_openFrom hG N _ _ _ hc) (Nat.le_of_ble_eq_true rfl) rfl rfl rfl rfl (Nat.le_of_ble_eq_true rfl) ?_
      obtain rfl := Option.some.inj h
      exact am_iret X h0 dX6_of_175 rfl ⟨rfl, rfl⟩
    have h := if_f h c10
    refine am_tabOut (tgt := 176) (vs := [(0 : Int32), (1 : Int32), (2 : Int32), (3 : Int32), (4 : Int32), (5 : Int32), (6 : Int32), (7 : Int32), (8 : Int32), (9 : Int32), (10 : Int32)]) X dX6_of_15 (List.forall_mem_cons.mpr ⟨c0, (List.forall_mem_cons.mpr ⟨c1, (List.forall_mem_cons.mpr ⟨c2, (List.forall_mem_cons.mpr ⟨c3, (List.forall_mem_cons.mpr ⟨c4, (List.forall_mem_cons.mpr ⟨c5, (List.forall_mem_cons.mpr ⟨c6, (List.forall_mem_cons.mpr ⟨c7, (List.forall_mem_cons.mpr ⟨c8, (List.forall_mem_cons.mpr ⟨c9, (List.forall_mem_cons.mpr ⟨c10, (fun _ h => absurd h List.not_mem_nil)⟩)⟩)⟩)⟩)⟩)⟩)⟩)⟩)⟩)⟩)⟩) (by decide) (by decide) ?_
    refine am_ldc (v := (-1000001 : Int32)) X dX6_of_176 (wm_r16 _ (List.mem_of_getElem? (i := 22) rfl)) ?_
    obtain rfl := Option.some.inj h
    exact am_iret X h0 dX6_of_178 rfl ⟨rfl, rfl⟩
  · have h := if_t h c
    refine am_ldc (v := (-1000001 : Int32)) X dX6_of_11 (wm_r16 _ (List.mem_of_getElem? (i := 22) rfl)) ?_
    obtain rfl := Option.some.inj h
    exact am_iret X h0 dX6_of_13 rfl ⟨rfl, rfl⟩
set_option maxRecDepth 100000 in
set_option maxHeartbeats 4000000 in
theorem t_X4_paying_26 {G : Cx} (hG : am_G G) (N : Nat) (k4 : Int32 → Int32 → Sg → Option (Int32 × Sg)) (hk4 : ∀ (x1 : Int32) (x2 : Int32) (σ : Sg) (r : Int32 × Sg), k4 x1 x2 σ = some r → am_Wp G mX4_paying 5 (am_qi r.1 r.2) 4 [some (.ref 1), some (.int x1), some (.int x2)] [] σ) (x1 : Int32) (x2 : Int32) (σ : Sg) (r : Int32 × Sg) (h : b_X4_paying_26 N k4 x1 x2 σ = some r) : am_Wp G mX4_paying 5 (am_qi r.1 r.2) 26 [some (.ref 1), some (.int x1), some (.int x2)] [] σ := by
  intro K h0 X
  unfold b_X4_paying_26 at h
  refine am_iinc (ls' := fun x2_26 => [some (.ref 1), some (.int x1), some (.int x2_26)]) X dX4_paying_26 rfl h (by decide) (by decide) rfl (fun _ => rfl) (fun x2_26 h => ?_)
  refine am_goto (tgt := 4) X dX4_paying_29 (by decide) ?_
  exact am_jump (hk4 _ _ _ _ h K h0 X) rfl ⟨rfl, rfl, rfl, trivial⟩
set_option maxRecDepth 100000 in
set_option maxHeartbeats 4000000 in
theorem t_X4_paying_4b {G : Cx} (hG : am_G G) (N : Nat) (k4 : Int32 → Int32 → Sg → Option (Int32 × Sg)) (hk4 : ∀ (x1 : Int32) (x2 : Int32) (σ : Sg) (r : Int32 × Sg), k4 x1 x2 σ = some r → am_Wp G mX4_paying 5 (am_qi r.1 r.2) 4 [some (.ref 1), some (.int x1), some (.int x2)] [] σ) (x1 : Int32) (x2 : Int32) (σ : Sg) (r : Int32 × Sg) (h : b_X4_paying_4b N k4 x1 x2 σ = some r) : am_Wp G mX4_paying 5 (am_qi r.1 r.2) 4 [some (.ref 1), some (.int x1), some (.int x2)] [] σ := by
  intro K h0 X
  unfold b_X4_paying_4b at h
  refine am_iload_n X dX4_paying_4 rfl rfl ?_
  refine am_aload_n X dX4_paying_5 rfl rfl ?_
  refine am_getf (v := .int (rg σ 1 0)) X dX4_paying_6 fl_X4_43 rfl rfl (by decide) ?_
  refine am_icmp_ge (tgt := 32) X dX4_paying_9 (by decide) (fun c => ?_) (fun c => ?_)
  · have h := if_t h c
    refine am_iload_n X dX4_paying_32 rfl rfl ?_
    obtain rfl := Option.some.inj h
    exact am_iret X h0 dX4_paying_33 rfl ⟨rfl, rfl⟩
  · have h := if_f h c
    refine am_aload_n X dX4_paying_12 rfl rfl ?_
    refine am_iload_n X dX4_paying_13 rfl rfl ?_
    obtain ⟨v14, σ14, hc, h⟩ := bd2_some h
    refine am_callv_i1 X dX4_paying_14 cw_X4_102 (ct_X4_pays hG N _ _ _ hc) (Nat.le_of_ble_eq_true rfl) rfl rfl rfl rfl (Nat.le_of_ble_eq_true rfl) ?_
    refine am_if_le (tgt := 26) X dX4_paying_17 (by decide) (fun c => ?_) (fun c => ?_)
    · have h := if_t h c
      exact am_jump (t_X4_paying_26 hG N k4 hk4 _ _ _ _ h K h0 X) rfl ⟨rfl, rfl, rfl, trivial⟩
    · have h := if_f h c
      refine am_iload_n X dX4_paying_20 rfl rfl ?_
      refine am_iconst (v := (1 : Int32)) X dX4_paying_21 (by decide) ?_
      refine am_iload_n X dX4_paying_22 rfl rfl ?_
      refine am_ishl X dX4_paying_23 ?_
      refine am_ior X dX4_paying_24 ?_
      refine am_topi h (fun x1_25 h => ?_)
      refine am_istore_n (ls' := [some (.ref 1), some (.int x1_25), some (.int x2)]) X dX4_paying_25 rfl (by decide)  rfl rfl ?_
      exact am_jump (t_X4_paying_26 hG N k4 hk4 _ _ _ _ h K h0 X) rfl ⟨rfl, rfl, rfl, trivial⟩
set_option maxRecDepth 100000 in
set_option maxHeartbeats 4000000 in
theorem t_X4_paying_4 {G : Cx} (hG : am_G G) (N : Nat) : ∀ (n : Nat) (x1 : Int32) (x2 : Int32) (σ : Sg) (r : Int32 × Sg), b_X4_paying_4 N n x1 x2 σ = some r → am_Wp G mX4_paying 5 (am_qi r.1 r.2) 4 [some (.ref 1), some (.int x1), some (.int x2)] [] σ := by
  intro n
  induction n with
  | zero => intro x1 x2 σ r h; cases h
  | succ n ih => intro x1 x2 σ r h; exact t_X4_paying_4b hG N (b_X4_paying_4 N n) ih x1 x2 σ r h
set_option maxRecDepth 100000 in
set_option maxHeartbeats 4000000 in
theorem ct_X4_paying {G : Cx} (hG : am_G G) (N : Nat) (σ : Sg) (r : Int32 × Sg) (h : f_X4_paying N σ = some r) : am_Ct G 6 yX4_paying mX4_paying [.ref 1] σ (am_qi r.1 r.2) := by
  refine am_enter hG rfl rfl (Nat.le_of_ble_eq_true rfl) ?_
  intro K h0 X
  unfold f_X4_paying at h
  refine am_jump (pc' := 0) (ls' := [some (.ref 1), none, none]) ?_ rfl ⟨rfl, trivial⟩
  refine am_iconst (v := (0 : Int32)) X dX4_paying_0 (by decide) ?_
  refine am_istore_n (ls' := [some (.ref 1), some (.int (0 : Int32)), none]) X dX4_paying_1 rfl (by decide)  rfl rfl ?_
  refine am_iconst (v := (0 : Int32)) X dX4_paying_2 (by decide) ?_
  refine am_istore_n (ls' := [some (.ref 1), some (.int (0 : Int32)), some (.int (0 : Int32))]) X dX4_paying_3 rfl (by decide)  rfl rfl ?_
  exact am_jump (t_X4_paying_4 hG N N _ _ _ _ h K h0 X) rfl ⟨rfl, rfl, rfl, trivial⟩
set_option maxRecDepth 100000 in
set_option maxHeartbeats 4000000 in
theorem t_X3_bestPlace_74 {G : Cx} (hG : am_G G) (N : Nat) (k9 : Int32 → Int32 → Int32 → Int32 → Sg → Option (Int32 × Sg)) (hk9 : ∀ (x1 : Int32) (x2 : Int32) (x3 : Int32) (x4 : Int32) (σ : Sg) (r : Int32 × Sg), k9 x1 x2 x3 x4 σ = some r → am_Wp G mX3_bestPlace 1 (am_qi r.1 r.2) 9 [some (.ref 8), some (.int x1), some (.int x2), some (.int x3), some (.int x4), none, none] [] σ) (x1 : Int32) (x2 : Int32) (x3 : Int32) (x4 : Int32) (σ : Sg) (r : Int32 × Sg) (h : b_X3_bestPlace_74 N k9 x1 x2 x3 x4 σ = some r) : am_Wp G mX3_bestPlace 1 (am_qi r.1 r.2) 74 [some (.ref 8), some (.int x1), some (.int x2), some (.int x3), some (.int x4), none, none] [] σ := by
  intro K h0 X
  unfold b_X3_bestPlace_74 at h
  refine am_iinc (ls' := fun x4_74 => [some (.ref 8), some (.int x1), some (.int x2), some (.int x3), some (.int x4_74), none, none]) X dX3_bestPlace_74 rfl h (by decide) (by decide) rfl (fun _ => rfl) (fun x4_74 h => ?_)
  refine am_goto (tgt := 9) X dX3_bestPlace_77 (by decide) ?_
  exact am_jump (hk9 _ _ _ _ _ _ h K h0 X) rfl ⟨rfl, rfl, rfl, rfl, rfl, trivial⟩
set_option maxRecDepth 100000 in
set_option maxHeartbeats 4000000 in
theorem t_X3_bestPlace_56 {G : Cx} (hG : am_G G) (N : Nat) (k9 : Int32 → Int32 → Int32 → Int32 → Sg → Option (Int32 × Sg)) (k24 : Int32 → Int32 → Int32 → Int32 → Int32 → Int32 → Sg → Option (Int32 × Sg)) (hk9 : ∀ (x1 : Int32) (x2 : Int32) (x3 : Int32) (x4 : Int32) (σ : Sg) (r : Int32 × Sg), k9 x1 x2 x3 x4 σ = some r → am_Wp G mX3_bestPlace 1 (am_qi r.1 r.2) 9 [some (.ref 8), some (.int x1), some (.int x2), some (.int x3), some (.int x4), none, none] [] σ) (hk24 : ∀ (x1 : Int32) (x2 : Int32) (x3 : Int32) (x4 : Int32) (x5 : Int32) (x6 : Int32) (σ : Sg) (r : Int32 × Sg), k24 x1 x2 x3 x4 x5 x6 σ = some r → am_Wp G mX3_bestPlace 1 (am_qi r.1 r.2) 24 [some (.ref 8), some (.int x1), some (.int x2), some (.int x3), some (.int x4), some (.int x5), some (.int x6)] [] σ) (x1 : Int32) (x2 : Int32) (x3 : Int32) (x4 : Int32) (x5 : Int32) (x6 : Int32) (σ : Sg) (r : Int32 × Sg) (h : b_X3_bestPlace_56 N k9 k24 x1 x2 x3 x4 x5 x6 σ = some r) : am_Wp G mX3_bestPlace 1 (am_qi r.1 r.2) 56 [some (.ref 8), some (.int x1), some (.int x2), some (.int x3), some (.int x4), some (.int x5), some (.int x6)] [] σ := by
  intro K h0 X
  unfold b_X3_bestPlace_56 at h
  refine am_iinc (ls' := fun x6_56 => [some (.ref 8), some (.int x1), some (.int x2), some (.int x3), some (.int x4), some (.int x5), some (.int x6_56)]) X dX3_bestPlace_56 rfl h (by decide) (by decide) rfl (fun _ => rfl) (fun x6_56 h => ?_)
  refine am_goto (tgt := 24) X dX3_bestPlace_59 (by decide) ?_
  exact am_jump (hk24 _ _ _ _ _ _ _ _ h K h0 X) rfl ⟨rfl, rfl, rfl, rfl, rfl, rfl, rfl, trivial⟩
set_option maxRecDepth 100000 in
set_option maxHeartbeats 4000000 in
theorem t_X3_bestPlace_24b {G : Cx} (hG : am_G G) (N : Nat) (k9 : Int32 → Int32 → Int32 → Int32 → Sg → Option (Int32 × Sg)) (k24 : Int32 → Int32 → Int32 → Int32 → Int32 → Int32 → Sg → Option (Int32 × Sg)) (hk9 : ∀ (x1 : Int32) (x2 : Int32) (x3 : Int32) (x4 : Int32) (σ : Sg) (r : Int32 × Sg), k9 x1 x2 x3 x4 σ = some r → am_Wp G mX3_bestPlace 1 (am_qi r.1 r.2) 9 [some (.ref 8), some (.int x1), some (.int x2), some (.int x3), some (.int x4), none, none] [] σ) (hk24 : ∀ (x1 : Int32) (x2 : Int32) (x3 : Int32) (x4 : Int32) (x5 : Int32) (x6 : Int32) (σ : Sg) (r : Int32 × Sg), k24 x1 x2 x3 x4 x5 x6 σ = some r → am_Wp G mX3_bestPlace 1 (am_qi r.1 r.2) 24 [some (.ref 8), some (.int x1), some (.int x2), some (.int x3), some (.int x4), some (.int x5), some (.int x6)] [] σ) (x1 : Int32) (x2 : Int32) (x3 : Int32) (x4 : Int32) (x5 : Int32) (x6 : Int32) (σ : Sg) (r : Int32 × Sg) (h : b_X3_bestPlace_24b N k9 k24 x1 x2 x3 x4 x5 x6 σ = some r) : am_Wp G mX3_bestPlace 1 (am_qi r.1 r.2) 24 [some (.ref 8), some (.int x1), some (.int x2), some (.int x3), some (.int x4), some (.int x5), some (.int x6)] [] σ := by
  intro K h0 X
  unfold b_X3_bestPlace_24b at h
  refine am_iload X dX3_bestPlace_24 rfl ?_
  refine am_aload_n X dX3_bestPlace_26 rfl rfl ?_
  refine am_getf (v := .int (rg σ 8 0)) X dX3_bestPlace_27 fl_X3_34 rfl rfl (by decide) ?_
  refine am_icmp_ge (tgt := 62) X dX3_bestPlace_30 (by decide) (fun c => ?_) (fun c => ?_)
  · have h := if_t h c
    refine am_iload X dX3_bestPlace_62 rfl ?_
    refine am_iload_n X dX3_bestPlace_64 rfl rfl ?_
    refine am_icmp_ge (tgt := 74) X dX3_bestPlace_65 (by decide) (fun c => ?_) (fun c => ?_)
    · have h := if_t h c
      exact am_jump (t_X3_bestPlace_74 hG N k9 hk9 _ _ _ _ _ _ h K h0 X) rfl ⟨rfl, rfl, rfl, rfl, rfl, trivial⟩
    · have h := if_f h c
      refine am_iload X dX3_bestPlace_68 rfl ?_
      refine am_istore_n (ls' := [some (.ref 8), some (.int x1), some (.int x4), some (.int x3), some (.int x4), some (.int x5), some (.int x6)]) X dX3_bestPlace_70 rfl (by decide)  rfl rfl ?_
      refine am_iload X dX3_bestPlace_71 rfl ?_
      refine am_istore_n (ls' := [some (.ref 8), some (.int x1), some (.int x4), some (.int x5), some (.int x4), some (.int x5), some (.int x6)]) X dX3_bestPlace_73 rfl (by decide)  rfl rfl ?_
      exact am_jump (t_X3_bestPlace_74 hG N k9 hk9 _ _ _ _ _ _ h K h0 X) rfl ⟨rfl, rfl, rfl, rfl, rfl, trivial⟩
  · have h := if_f h c
    refine am_iload_n X dX3_bestPlace_33 rfl rfl ?_
    refine am_iload X dX3_bestPlace_34 rfl ?_
    refine am_ishr X dX3_bestPlace_36 ?_
    refine am_iconst (v := (1 : Int32)) X dX3_bestPlace_37 (by decide) ?_
    refine am_iand X dX3_bestPlace_38 ?_
    refine am_iconst (v := (1 : Int32)) X dX3_bestPlace_39 (by decide) ?_
    refine am_icmp_ne (tgt := 56) X dX3_bestPlace_40 (by decide) (fun c => ?_) (fun c => ?_)
    · have h := if_f h c
      exact am_jump (t_X3_bestPlace_56 hG N k9 k24 hk9 hk24 _ _ _ _ _ _ _ _ h K h0 X) rfl ⟨rfl, rfl, rfl, rfl, rfl, rfl, rfl, trivial⟩
    · have h := if_t h c
      refine am_iload X dX3_bestPlace_43 rfl ?_
      refine am_aload_n X dX3_bestPlace_45 rfl rfl ?_
      refine am_iload X dX3_bestPlace_46 rfl ?_
      refine am_iload X dX3_bestPlace_48 rfl ?_
      obtain ⟨v50, σ50, hc, h⟩ := bd2_some h
      refine am_callv_i2 X dX3_bestPlace_50 cw_X3_43 (ct_X3_price hG N _ _ _ _ hc) (Nat.le_of_ble_eq_true rfl) rfl rfl rfl rfl (Nat.le_of_ble_eq_true rfl) ?_
      refine am_iadd X dX3_bestPlace_53 ?_
      refine am_topi h (fun x5_54 h => ?_)
      refine am_istore (ls' := [some (.ref 8), some (.int x1), some (.int x2), some (.int x3), some (.int x4), some (.int x5_54), some (.int x6)]) X dX3_bestPlace_54 (by decide)  rfl rfl ?_
      exact am_jump (t_X3_bestPlace_56 hG N k9 k24 hk9 hk24 _ _ _ _ _ _ _ _ h K h0 X) rfl ⟨rfl, rfl, rfl, rfl, rfl, rfl, rfl, trivial⟩
set_option maxRecDepth 100000 in
set_option maxHeartbeats 4000000 in
theorem t_X3_bestPlace_24 {G : Cx} (hG : am_G G) (N : Nat) (k9 : Int32 → Int32 → Int32 → Int32 → Sg → Option (Int32 × Sg)) (hk9 : ∀ (x1 : Int32) (x2 : Int32) (x3 : Int32) (x4 : Int32) (σ : Sg) (r : Int32 × Sg), k9 x1 x2 x3 x4 σ = some r → am_Wp G mX3_bestPlace 1 (am_qi r.1 r.2) 9 [some (.ref 8), some (.int x1), some (.int x2), some (.int x3), some (.int x4), none, none] [] σ) : ∀ (n : Nat) (x1 : Int32) (x2 : Int32) (x3 : Int32) (x4 : Int32) (x5 : Int32) (x6 : Int32) (σ : Sg) (r : Int32 × Sg), b_X3_bestPlace_24 N k9 n x1 x2 x3 x4 x5 x6 σ = some r → am_Wp G mX3_bestPlace 1 (am_qi r.1 r.2) 24 [some (.ref 8), some (.int x1), some (.int x2), some (.int x3), some (.int x4), some (.int x5), some (.int x6)] [] σ := by
  intro n
  induction n with
  | zero => intro x1 x2 x3 x4 x5 x6 σ r h; cases h
  | succ n ih => intro x1 x2 x3 x4 x5 x6 σ r h; exact t_X3_bestPlace_24b hG N k9 (b_X3_bestPlace_24 N k9 n) hk9 ih x1 x2 x3 x4 x5 x6 σ r h
set_option maxRecDepth 100000 in
set_option maxHeartbeats 4000000 in
theorem t_X3_bestPlace_9b {G : Cx} (hG : am_G G) (N : Nat) (k9 : Int32 → Int32 → Int32 → Int32 → Sg → Option (Int32 × Sg)) (hk9 : ∀ (x1 : Int32) (x2 : Int32) (x3 : Int32) (x4 : Int32) (σ : Sg) (r : Int32 × Sg), k9 x1 x2 x3 x4 σ = some r → am_Wp G mX3_bestPlace 1 (am_qi r.1 r.2) 9 [some (.ref 8), some (.int x1), some (.int x2), some (.int x3), some (.int x4), none, none] [] σ) (x1 : Int32) (x2 : Int32) (x3 : Int32) (x4 : Int32) (σ : Sg) (r : Int32 × Sg) (h : b_X3_bestPlace_9b N k9 x1 x2 x3 x4 σ = some r) : am_Wp G mX3_bestPlace 1 (am_qi r.1 r.2) 9 [some (.ref 8), some (.int x1), some (.int x2), some (.int x3), some (.int x4), none, none] [] σ := by
  intro K h0 X
  unfold b_X3_bestPlace_9b at h
  refine am_iload X dX3_bestPlace_9 rfl ?_
  refine am_aload_n X dX3_bestPlace_11 rfl rfl ?_
  refine am_getf (v := .int (rg σ 8 0)) X dX3_bestPlace_12 fl_X3_34 rfl rfl (by decide) ?_
  refine am_icmp_ge (tgt := 80) X dX3_bestPlace_15 (by decide) (fun c => ?_) (fun c => ?_)
  · have h := if_t h c
    refine am_iload_n X dX3_bestPlace_80 rfl rfl ?_
    obtain rfl := Option.some.inj h
    exact am_iret X h0 dX3_bestPlace_81 rfl ⟨rfl, rfl⟩
  · have h := if_f h c
    refine am_iconst (v := (0 : Int32)) X dX3_bestPlace_18 (by decide) ?_
    refine am_istore (ls' := [some (.ref 8), some (.int x1), some (.int x2), some (.int x3), some (.int x4), some (.int (0 : Int32)), none]) X dX3_bestPlace_19 (by decide)  rfl rfl ?_
    refine am_iconst (v := (0 : Int32)) X dX3_bestPlace_21 (by decide) ?_
    refine am_istore (ls' := [some (.ref 8), some (.int x1), some (.int x2), some (.int x3), some (.int x4), some (.int (0 : Int32)), some (.int (0 : Int32))]) X dX3_bestPlace_22 (by decide)  rfl rfl ?_
    exact am_jump (t_X3_bestPlace_24 hG N k9 hk9 N _ _ _ _ _ _ _ _ h K h0 X) rfl ⟨rfl, rfl, rfl, rfl, rfl, rfl, rfl, trivial⟩
set_option maxRecDepth 100000 in
set_option maxHeartbeats 4000000 in
theorem t_X3_bestPlace_9 {G : Cx} (hG : am_G G) (N : Nat) : ∀ (n : Nat) (x1 : Int32) (x2 : Int32) (x3 : Int32) (x4 : Int32) (σ : Sg) (r : Int32 × Sg), b_X3_bestPlace_9 N n x1 x2 x3 x4 σ = some r → am_Wp G mX3_bestPlace 1 (am_qi r.1 r.2) 9 [some (.ref 8), some (.int x1), some (.int x2), some (.int x3), some (.int x4), none, none] [] σ := by
  intro n
  induction n with
  | zero => intro x1 x2 x3 x4 σ r h; cases h
  | succ n ih => intro x1 x2 x3 x4 σ r h; exact t_X3_bestPlace_9b hG N (b_X3_bestPlace_9 N n) ih x1 x2 x3 x4 σ r h
set_option maxRecDepth 100000 in
set_option maxHeartbeats 4000000 in
theorem ct_X3_bestPlace {G : Cx} (hG : am_G G) (N : Nat) (x1 : Int32) (σ : Sg) (r : Int32 × Sg) (h : f_X3_bestPlace N x1 σ = some r) : am_Ct G 2 yX3_bestPlace mX3_bestPlace [.ref 8, .int x1] σ (am_qi r.1 r.2) := by
  refine am_enter hG rfl rfl (Nat.le_of_ble_eq_true rfl) ?_
  intro K h0 X
  unfold f_X3_bestPlace at h
  refine am_jump (pc' := 0) (ls' := [some (.ref 8), some (.int x1), none, none, none, none, none]) ?_ rfl ⟨rfl, rfl, trivial⟩
  refine am_bipush (v := (-5 : Int32)) X dX3_bestPlace_0 (by decide) ?_
  refine am_istore_n (ls' := [some (.ref 8), some (.int x1), some (.int (-5 : Int32)), none, none, none, none]) X dX3_bestPlace_2 rfl (by decide)  rfl rfl ?_
  refine am_ldc (v := (1000000 : Int32)) X dX3_bestPlace_3 (wm_r29 _ (List.mem_of_getElem? (i := 18) rfl)) ?_
  refine am_istore_n (ls' := [some (.ref 8), some (.int x1), some (.int (-5 : Int32)), some (.int (1000000 : Int32)), none, none, none]) X dX3_bestPlace_5 rfl (by decide)  rfl rfl ?_
  refine am_iconst (v := (0 : Int32)) X dX3_bestPlace_6 (by decide) ?_
  refine am_istore (ls' := [some (.ref 8), some (.int x1), some (.int (-5 : Int32)), some (.int (1000000 : Int32)), some (.int (0 : Int32)), none, none]) X dX3_bestPlace_7 (by decide)  rfl rfl ?_
  exact am_jump (t_X3_bestPlace_9 hG N N _ _ _ _ _ _ h K h0 X) rfl ⟨rfl, rfl, rfl, rfl, rfl, trivial⟩
set_option maxRecDepth 100000 in
set_option maxHeartbeats 4000000 in
theorem ct_X6_stand {G : Cx} (hG : am_G G) (N : Nat) (σ : Sg) (r : Int32 × Sg) (h : f_X6_stand N σ = some r) : am_Ct G 7 yX6_stand mX6_stand [.ref 0] σ (am_qi r.1 r.2) := by
  refine am_enter hG rfl rfl (Nat.le_of_ble_eq_true rfl) ?_
  intro K h0 X
  unfold f_X6_stand at h
  refine am_jump (pc' := 0) (ls' := [some (.ref 0)]) ?_ rfl ⟨rfl, trivial⟩
  refine am_aload_n X dX6_stand_0 rfl rfl ?_
  refine am_getf (v := .ref 8) X dX6_stand_1 fl_X6_42 rfl rfl (by decide) ?_
  refine am_aload_n X dX6_stand_4 rfl rfl ?_
  refine am_getf (v := .ref 1) X dX6_stand_5 fl_X6_12 rfl rfl (by decide) ?_
  obtain ⟨σ8, hc, h⟩ := bd_some h
  refine am_callv_v1 X dX6_stand_8 cw_X6_165 (ct_X3_load hG N _ _ hc) (Nat.le_of_ble_eq_true rfl) rfl rfl rfl rfl (Nat.le_of_ble_eq_true rfl) ?_
  refine am_aload_n X dX6_stand_11 rfl rfl ?_
  refine am_getf (v := .ref 8) X dX6_stand_12 fl_X6_42 rfl rfl (by decide) ?_
  refine am_aload_n X dX6_stand_15 rfl rfl ?_
  refine am_getf (v := .ref 1) X dX6_stand_16 fl_X6_12 rfl rfl (by decide) ?_
  obtain ⟨v19, σ19, hc, h⟩ := bd2_some h
  refine am_callv_i0 X dX6_stand_19 cw_X6_140 (ct_X4_paying hG N _ _ hc) (Nat.le_of_ble_eq_true rfl) rfl rfl rfl rfl (Nat.le_of_ble_eq_true rfl) ?_
  obtain ⟨v22, σ22, hc, h⟩ := bd2_some h
  refine am_callv_i1 X dX6_stand_22 cw_X6_180 (ct_X3_bestPlace hG N _ _ _ hc) (Nat.le_of_ble_eq_true rfl) rfl rfl rfl rfl (Nat.le_of_ble_eq_true rfl) ?_
  obtain rfl := Option.some.inj h
  exact am_iret X h0 dX6_stand_25 rfl ⟨rfl, rfl⟩
set_option maxRecDepth 100000 in
set_option maxHeartbeats 4000000 in
theorem t_J7_fill_d0a16_6b {G : Cx} (hG : am_G G) (N : Nat) (k6 : Int64 → Int32 → Int32 → Sg → Option (Sg)) (hk6 : ∀ (x1 : Int64) (x3 : Int32) (x4 : Int32) (σ : Sg) (r : Sg), k6 x1 x3 x4 σ = some r → am_Wp G mJ7_fill_d0a16 0 (am_qv r) 6 [some (.ref 57), some (.long x1), none, some (.int x3), some (.int x4)] [] σ) (x1 : Int64) (x3 : Int32) (x4 : Int32) (σ : Sg) (r : Sg) (h : b_J7_fill_d0a16_6b N k6 x1 x3 x4 σ = some r) : am_Wp G mJ7_fill_d0a16 0 (am_qv r) 6 [some (.ref 57), some (.long x1), none, some (.int x3), some (.int x4)] [] σ := by
  intro K h0 X
  unfold b_J7_fill_d0a16_6b at h
  refine am_iload_n X dJ7_fill_d0a16_6 rfl rfl ?_
  refine am_iload X dJ7_fill_d0a16_7 rfl ?_
  refine am_icmp_ge (tgt := 22) X dJ7_fill_d0a16_9 (by decide) (fun c => ?_) (fun c => ?_)
  · have h := if_t h c
    obtain rfl := Option.some.inj h
    exact am_vret X h0 dJ7_fill_d0a16_22 rfl ⟨rfl, rfl⟩
  · have h := if_f h c
    refine am_aload_n X dJ7_fill_d0a16_12 rfl rfl ?_
    refine am_iload_n X dJ7_fill_d0a16_13 rfl rfl ?_
    refine am_lload_n X dJ7_fill_d0a16_14 rfl rfl ?_
    obtain ⟨g, h⟩ := gd_some h
    refine am_last X dJ7_fill_d0a16_15 rfl g ?_
    refine am_tops h (fun σ15 h => ?_)
    refine am_iinc (ls' := fun x3_16 => [some (.ref 57), some (.long x1), none, some (.int x3_16), some (.int x4)]) X dJ7_fill_d0a16_16 rfl h (by decide) (by decide) rfl (fun _ => rfl) (fun x3_16 h => ?_)
    refine am_goto (tgt := 6) X dJ7_fill_d0a16_19 (by decide) ?_
    exact am_jump (hk6 _ _ _ _ _ h K h0 X) rfl ⟨rfl, rfl, rfl, rfl, trivial⟩
set_option maxRecDepth 100000 in
set_option maxHeartbeats 4000000 in
theorem t_J7_fill_d0a16_6 {G : Cx} (hG : am_G G) (N : Nat) : ∀ (n : Nat) (x1 : Int64) (x3 : Int32) (x4 : Int32) (σ : Sg) (r : Sg), b_J7_fill_d0a16_6 N n x1 x3 x4 σ = some r → am_Wp G mJ7_fill_d0a16 0 (am_qv r) 6 [some (.ref 57), some (.long x1), none, some (.int x3), some (.int x4)] [] σ := by
  intro n
  induction n with
  | zero => intro x1 x3 x4 σ r h; cases h
  | succ n ih => intro x1 x3 x4 σ r h; exact t_J7_fill_d0a16_6b hG N (b_J7_fill_d0a16_6 N n) ih x1 x3 x4 σ r h
set_option maxRecDepth 100000 in
set_option maxHeartbeats 4000000 in
theorem ct_J7_fill_d0a16 {G : Cx} (hG : am_G G) (N : Nat) (x1 : Int64) (σ : Sg) (r : Sg) (h : f_J7_fill_d0a16 N x1 σ = some r) : am_Ct G 1 yJ7_fill_d0a16 mJ7_fill_d0a16 [.ref 57, .long x1] σ (am_qv r) := by
  refine am_enter hG rfl rfl (Nat.le_of_ble_eq_true rfl) ?_
  intro K h0 X
  unfold f_J7_fill_d0a16 at h
  refine am_jump (pc' := 0) (ls' := [some (.ref 57), some (.long x1), none, none, none]) ?_ rfl ⟨rfl, rfl, trivial⟩
  refine am_iconst (v := (0 : Int32)) X dJ7_fill_d0a16_0 (by decide) ?_
  refine am_istore_n (ls' := [some (.ref 57), some (.long x1), none, some (.int (0 : Int32)), none]) X dJ7_fill_d0a16_1 rfl (by decide)  rfl rfl ?_
  refine am_aload_n X dJ7_fill_d0a16_2 rfl rfl ?_
  refine am_alen (v := (7 : Int32)) X dJ7_fill_d0a16_3 rfl rfl ?_
  refine am_istore (ls' := [some (.ref 57), some (.long x1), none, some (.int (0 : Int32)), some (.int (7 : Int32))]) X dJ7_fill_d0a16_4 (by decide)  rfl rfl ?_
  exact am_jump (t_J7_fill_d0a16_6 hG N N _ _ _ _ _ h K h0 X) rfl ⟨rfl, rfl, rfl, rfl, trivial⟩
set_option maxRecDepth 100000 in
set_option maxHeartbeats 4000000 in
theorem ct_X3_begin {G : Cx} (hG : am_G G) (N : Nat) (x1 : Int32) (σ : Sg) (r : Sg) (h : f_X3_begin N x1 σ = some r) : am_Ct G 2 yX3_begin mX3_begin [.ref 8, .int x1] σ (am_qv r) := by
  refine am_enter hG rfl rfl (Nat.le_of_ble_eq_true rfl) ?_
  intro K h0 X
  unfold f_X3_begin at h
  refine am_jump (pc' := 0) (ls' := [some (.ref 8), some (.int x1)]) ?_ rfl ⟨rfl, rfl, trivial⟩
  refine am_aload_n X dX3_begin_0 rfl rfl ?_
  refine am_getf (v := .ref 57) X dX3_begin_1 fl_X3_21 rfl rfl (by decide) ?_
  refine am_lconst (v := (0 : Int64)) X dX3_begin_4 (by decide) ?_
  obtain ⟨σ5, hc, h⟩ := bd_some h
  refine am_calls_v2 X dX3_begin_5 cw_X3_69 (ct_J7_fill_d0a16 hG N _ _ _ hc) (Nat.le_of_ble_eq_true rfl) rfl (Nat.le_of_ble_eq_true rfl) ?_
  refine am_aload_n X dX3_begin_8 rfl rfl ?_
  refine am_getf (v := .ref 57) X dX3_begin_9 fl_X3_21 rfl rfl (by decide) ?_
  refine am_iload_n X dX3_begin_12 rfl rfl ?_
  refine am_lconst (v := (1 : Int64)) X dX3_begin_13 (by decide) ?_
  obtain ⟨g, h⟩ := gd_some h
  refine am_last X dX3_begin_14 rfl g ?_
  refine am_tops h (fun σ14 h => ?_)
  obtain rfl := Option.some.inj h
  exact am_vret X h0 dX3_begin_15 rfl ⟨rfl, rfl⟩
set_option maxRecDepth 100000 in
set_option maxHeartbeats 4000000 in
theorem t_X3_commonDivisor_9b {G : Cx} (hG : am_G G) (N : Nat) (k9 : Int64 → Int64 → Int32 → Sg → Option (Int64 × Sg)) (hk9 : ∀ (x4 : Int64) (x6 : Int64) (x8 : Int32) (σ : Sg) (r : Int64 × Sg), k9 x4 x6 x8 σ = some r → am_Wp G mX3_commonDivisor 0 (am_ql r.1 r.2) 9 [none, none, none, none, some (.long x4), none, some (.long x6), none, some (.int x8), none, none] [] σ) (x4 : Int64) (x6 : Int64) (x8 : Int32) (σ : Sg) (r : Int64 × Sg) (h : b_X3_commonDivisor_9b N k9 x4 x6 x8 σ = some r) : am_Wp G mX3_commonDivisor 0 (am_ql r.1 r.2) 9 [none, none, none, none, some (.long x4), none, some (.long x6), none, some (.int x8), none, none] [] σ := by
  intro K h0 X
  unfold b_X3_commonDivisor_9b at h
  refine am_iload X dX3_commonDivisor_9 rfl ?_
  refine am_bipush (v := (100 : Int32)) X dX3_commonDivisor_11 (by decide) ?_
  refine am_icmp_ge (tgt := 44) X dX3_commonDivisor_13 (by decide) (fun c => ?_) (fun c => ?_)
  · have h := if_t h c
    refine am_lload X dX3_commonDivisor_44 rfl ?_
    obtain rfl := Option.some.inj h
    exact am_lret X h0 dX3_commonDivisor_46 rfl ⟨rfl, rfl⟩
  · have h := if_f h c
    refine am_lload X dX3_commonDivisor_16 rfl ?_
    refine am_lconst (v := (0 : Int64)) X dX3_commonDivisor_18 (by decide) ?_
    refine am_lcmp X dX3_commonDivisor_19 ?_
    refine am_if_eq (tgt := 44) X dX3_commonDivisor_20 (by decide) (fun c => ?_) (fun c => ?_)
    · have h := if_t h c
      refine am_lload X dX3_commonDivisor_44 rfl ?_
      obtain rfl := Option.some.inj h
      exact am_lret X h0 dX3_commonDivisor_46 rfl ⟨rfl, rfl⟩
    · have h := if_f h c
      refine am_lload X dX3_commonDivisor_23 rfl ?_
      refine am_lload X dX3_commonDivisor_25 rfl ?_
      obtain ⟨g, h⟩ := gd_some h
      refine am_lrem X dX3_commonDivisor_27 (of_decide_eq_true g) ?_
      refine am_topl h (fun x9_28 h => ?_)
      refine am_lstore (ls' := [none, none, none, none, some (.long x4), none, some (.long x6), none, some (.int x8), some (.long x9_28), none]) X dX3_commonDivisor_28 (by decide)  rfl rfl ?_
      refine am_lload X dX3_commonDivisor_30 rfl ?_
      refine am_lstore (ls' := [none, none, none, none, some (.long x6), none, some (.long x6), none, some (.int x8), some (.long x9_28), none]) X dX3_commonDivisor_32 (by decide)  rfl rfl ?_
      refine am_lload X dX3_commonDivisor_34 rfl ?_
      refine am_lstore (ls' := [none, none, none, none, some (.long x6), none, some (.long x9_28), none, some (.int x8), some (.long x9_28), none]) X dX3_commonDivisor_36 (by decide)  rfl rfl ?_
      refine am_iinc (ls' := fun x8_38 => [none, none, none, none, some (.long x6), none, some (.long x9_28), none, some (.int x8_38), some (.long x9_28), none]) X dX3_commonDivisor_38 rfl h (by decide) (by decide) rfl (fun _ => rfl) (fun x8_38 h => ?_)
      refine am_goto (tgt := 9) X dX3_commonDivisor_41 (by decide) ?_
      exact am_jump (hk9 _ _ _ _ _ h K h0 X) rfl ⟨rfl, rfl, rfl, trivial⟩
set_option maxRecDepth 100000 in
set_option maxHeartbeats 4000000 in
theorem t_X3_commonDivisor_9 {G : Cx} (hG : am_G G) (N : Nat) : ∀ (n : Nat) (x4 : Int64) (x6 : Int64) (x8 : Int32) (σ : Sg) (r : Int64 × Sg), b_X3_commonDivisor_9 N n x4 x6 x8 σ = some r → am_Wp G mX3_commonDivisor 0 (am_ql r.1 r.2) 9 [none, none, none, none, some (.long x4), none, some (.long x6), none, some (.int x8), none, none] [] σ := by
  intro n
  induction n with
  | zero => intro x4 x6 x8 σ r h; cases h
  | succ n ih => intro x4 x6 x8 σ r h; exact t_X3_commonDivisor_9b hG N (b_X3_commonDivisor_9 N n) ih x4 x6 x8 σ r h
set_option maxRecDepth 100000 in
set_option maxHeartbeats 4000000 in
theorem ct_X3_commonDivisor {G : Cx} (hG : am_G G) (N : Nat) (x0 : Int64) (x2 : Int64) (σ : Sg) (r : Int64 × Sg) (h : f_X3_commonDivisor N x0 x2 σ = some r) : am_Ct G 1 yX3_commonDivisor mX3_commonDivisor [.long x0, .long x2] σ (am_ql r.1 r.2) := by
  refine am_enter hG rfl rfl (Nat.le_of_ble_eq_true rfl) ?_
  intro K h0 X
  unfold f_X3_commonDivisor at h
  refine am_jump (pc' := 0) (ls' := [some (.long x0), none, some (.long x2), none, none, none, none, none, none, none, none]) ?_ rfl ⟨rfl, rfl, trivial⟩
  refine am_lload_n X dX3_commonDivisor_0 rfl rfl ?_
  refine am_lstore (ls' := [some (.long x0), none, some (.long x2), none, some (.long x0), none, none, none, none, none, none]) X dX3_commonDivisor_1 (by decide)  rfl rfl ?_
  refine am_lload_n X dX3_commonDivisor_3 rfl rfl ?_
  refine am_lstore (ls' := [some (.long x0), none, some (.long x2), none, some (.long x0), none, some (.long x2), none, none, none, none]) X dX3_commonDivisor_4 (by decide)  rfl rfl ?_
  refine am_iconst (v := (0 : Int32)) X dX3_commonDivisor_6 (by decide) ?_
  refine am_istore (ls' := [some (.long x0), none, some (.long x2), none, some (.long x0), none, some (.long x2), none, some (.int (0 : Int32)), none, none]) X dX3_commonDivisor_7 (by decide)  rfl rfl ?_
  exact am_jump (t_X3_commonDivisor_9 hG N N _ _ _ _ _ h K h0 X) rfl ⟨rfl, rfl, rfl, trivial⟩
set_option maxRecDepth 100000 in
set_option maxHeartbeats 4000000 in
theorem t_J7_fill_d0a16_v1_6b {G : Cx} (hG : am_G G) (N : Nat) (k6 : Int64 → Int32 → Int32 → Sg → Option (Sg)) (hk6 : ∀ (x1 : Int64) (x3 : Int32) (x4 : Int32) (σ : Sg) (r : Sg), k6 x1 x3 x4 σ = some r → am_Wp G mJ7_fill_d0a16 0 (am_qv r) 6 [some (.ref 58), some (.long x1), none, some (.int x3), some (.int x4)] [] σ) (x1 : Int64) (x3 : Int32) (x4 : Int32) (σ : Sg) (r : Sg) (h : b_J7_fill_d0a16_v1_6b N k6 x1 x3 x4 σ = some r) : am_Wp G mJ7_fill_d0a16 0 (am_qv r) 6 [some (.ref 58), some (.long x1), none, some (.int x3), some (.int x4)] [] σ := by
  intro K h0 X
  unfold b_J7_fill_d0a16_v1_6b at h
  refine am_iload_n X dJ7_fill_d0a16_6 rfl rfl ?_
  refine am_iload X dJ7_fill_d0a16_7 rfl ?_
  refine am_icmp_ge (tgt := 22) X dJ7_fill_d0a16_9 (by decide) (fun c => ?_) (fun c => ?_)
  · have h := if_t h c
    obtain rfl := Option.some.inj h
    exact am_vret X h0 dJ7_fill_d0a16_22 rfl ⟨rfl, rfl⟩
  · have h := if_f h c
    refine am_aload_n X dJ7_fill_d0a16_12 rfl rfl ?_
    refine am_iload_n X dJ7_fill_d0a16_13 rfl rfl ?_
    refine am_lload_n X dJ7_fill_d0a16_14 rfl rfl ?_
    obtain ⟨g, h⟩ := gd_some h
    refine am_last X dJ7_fill_d0a16_15 rfl g ?_
    refine am_tops h (fun σ15 h => ?_)
    refine am_iinc (ls' := fun x3_16 => [some (.ref 58), some (.long x1), none, some (.int x3_16), some (.int x4)]) X dJ7_fill_d0a16_16 rfl h (by decide) (by decide) rfl (fun _ => rfl) (fun x3_16 h => ?_)
    refine am_goto (tgt := 6) X dJ7_fill_d0a16_19 (by decide) ?_
    exact am_jump (hk6 _ _ _ _ _ h K h0 X) rfl ⟨rfl, rfl, rfl, rfl, trivial⟩
set_option maxRecDepth 100000 in
set_option maxHeartbeats 4000000 in
theorem t_J7_fill_d0a16_v1_6 {G : Cx} (hG : am_G G) (N : Nat) : ∀ (n : Nat) (x1 : Int64) (x3 : Int32) (x4 : Int32) (σ : Sg) (r : Sg), b_J7_fill_d0a16_v1_6 N n x1 x3 x4 σ = some r → am_Wp G mJ7_fill_d0a16 0 (am_qv r) 6 [some (.ref 58), some (.long x1), none, some (.int x3), some (.int x4)] [] σ := by
  intro n
  induction n with
  | zero => intro x1 x3 x4 σ r h; cases h
  | succ n ih => intro x1 x3 x4 σ r h; exact t_J7_fill_d0a16_v1_6b hG N (b_J7_fill_d0a16_v1_6 N n) ih x1 x3 x4 σ r h
set_option maxRecDepth 100000 in
set_option maxHeartbeats 4000000 in
theorem ct_J7_fill_d0a16_v1 {G : Cx} (hG : am_G G) (N : Nat) (x1 : Int64) (σ : Sg) (r : Sg) (h : f_J7_fill_d0a16_v1 N x1 σ = some r) : am_Ct G 1 yJ7_fill_d0a16 mJ7_fill_d0a16 [.ref 58, .long x1] σ (am_qv r) := by
  refine am_enter hG rfl rfl (Nat.le_of_ble_eq_true rfl) ?_
  intro K h0 X
  unfold f_J7_fill_d0a16_v1 at h
  refine am_jump (pc' := 0) (ls' := [some (.ref 58), some (.long x1), none, none, none]) ?_ rfl ⟨rfl, rfl, trivial⟩
  refine am_iconst (v := (0 : Int32)) X dJ7_fill_d0a16_0 (by decide) ?_
  refine am_istore_n (ls' := [some (.ref 58), some (.long x1), none, some (.int (0 : Int32)), none]) X dJ7_fill_d0a16_1 rfl (by decide)  rfl rfl ?_
  refine am_aload_n X dJ7_fill_d0a16_2 rfl rfl ?_
  refine am_alen (v := (7 : Int32)) X dJ7_fill_d0a16_3 rfl rfl ?_
  refine am_istore (ls' := [some (.ref 58), some (.long x1), none, some (.int (0 : Int32)), some (.int (7 : Int32))]) X dJ7_fill_d0a16_4 (by decide)  rfl rfl ?_
  exact am_jump (t_J7_fill_d0a16_v1_6 hG N N _ _ _ _ _ h K h0 X) rfl ⟨rfl, rfl, rfl, rfl, trivial⟩
set_option maxRecDepth 100000 in
set_option maxHeartbeats 4000000 in
theorem t_X3_give_38 {G : Cx} (hG : am_G G) (N : Nat) (k3 : Int32 → Int64 → Int32 → Sg → Option (Sg)) (hk3 : ∀ (x1 : Int32) (x2 : Int64) (x4 : Int32) (σ : Sg) (r : Sg), k3 x1 x2 x4 σ = some r → am_Wp G mX3_give 0 (am_qv r) 3 [some (.ref 8), some (.int x1), some (.long x2), none, some (.int x4)] [] σ) (x1 : Int32) (x2 : Int64) (x4 : Int32) (σ : Sg) (r : Sg) (h : b_X3_give_38 N k3 x1 x2 x4 σ = some r) : am_Wp G mX3_give 0 (am_qv r) 38 [some (.ref 8), some (.int x1), some (.long x2), none, some (.int x4)] [] σ := by
  intro K h0 X
  unfold b_X3_give_38 at h
  refine am_iinc (ls' := fun x4_38 => [some (.ref 8), some (.int x1), some (.long x2), none, some (.int x4_38)]) X dX3_give_38 rfl h (by decide) (by decide) rfl (fun _ => rfl) (fun x4_38 h => ?_)
  refine am_goto (tgt := 3) X dX3_give_41 (by decide) ?_
  exact am_jump (hk3 _ _ _ _ _ h K h0 X) rfl ⟨rfl, rfl, rfl, rfl, trivial⟩
set_option maxRecDepth 100000 in
set_option maxHeartbeats 4000000 in
theorem t_X3_give_3b {G : Cx} (hG : am_G G) (N : Nat) (k3 : Int32 → Int64 → Int32 → Sg → Option (Sg)) (hk3 : ∀ (x1 : Int32) (x2 : Int64) (x4 : Int32) (σ : Sg) (r : Sg), k3 x1 x2 x4 σ = some r → am_Wp G mX3_give 0 (am_qv r) 3 [some (.ref 8), some (.int x1), some (.long x2), none, some (.int x4)] [] σ) (x1 : Int32) (x2 : Int64) (x4 : Int32) (σ : Sg) (r : Sg) (h : b_X3_give_3b N k3 x1 x2 x4 σ = some r) : am_Wp G mX3_give 0 (am_qv r) 3 [some (.ref 8), some (.int x1), some (.long x2), none, some (.int x4)] [] σ := by
  intro K h0 X
  unfold b_X3_give_3b at h
  refine am_iload X dX3_give_3 rfl ?_
  refine am_aload_n X dX3_give_5 rfl rfl ?_
  refine am_getf (v := .int (rg σ 8 0)) X dX3_give_6 fl_X3_34 rfl rfl (by decide) ?_
  refine am_icmp_ge (tgt := 44) X dX3_give_9 (by decide) (fun c => ?_) (fun c => ?_)
  · have h := if_t h c
    obtain rfl := Option.some.inj h
    exact am_vret X h0 dX3_give_44 rfl ⟨rfl, rfl⟩
  · have h := if_f h c
    refine am_aload_n X dX3_give_12 rfl rfl ?_
    refine am_getf (v := .ref 54) X dX3_give_13 fl_X3_9 rfl rfl (by decide) ?_
    refine am_iload_n X dX3_give_16 rfl rfl ?_
    obtain ⟨g, h⟩ := gd_some h
    refine am_iald X dX3_give_17 rfl g ?_
    refine am_iload X dX3_give_18 rfl ?_
    refine am_ishr X dX3_give_20 ?_
    refine am_iconst (v := (1 : Int32)) X dX3_give_21 (by decide) ?_
    refine am_iand X dX3_give_22 ?_
    refine am_iconst (v := (1 : Int32)) X dX3_give_23 (by decide) ?_
    refine am_icmp_ne (tgt := 38) X dX3_give_24 (by decide) (fun c => ?_) (fun c => ?_)
    · have h := if_f h c
      exact am_jump (t_X3_give_38 hG N k3 hk3 _ _ _ _ _ h K h0 X) rfl ⟨rfl, rfl, rfl, rfl, trivial⟩
    · have h := if_t h c
      refine am_aload_n X dX3_give_27 rfl rfl ?_
      refine am_getf (v := .ref 58) X dX3_give_28 fl_X3_25 rfl rfl (by decide) ?_
      refine am_iload X dX3_give_31 rfl ?_
      refine am_dup2 X dX3_give_33 rfl rfl ?_
      obtain ⟨g, h⟩ := gd_some h
      refine am_lald X dX3_give_34 rfl g ?_
      refine am_lload_n X dX3_give_35 rfl rfl ?_
      refine am_ladd X dX3_give_36 ?_
      obtain ⟨g, h⟩ := gd_some h
      refine am_last X dX3_give_37 rfl g ?_
      refine am_tops h (fun σ37 h => ?_)
      exact am_jump (t_X3_give_38 hG N k3 hk3 _ _ _ _ _ h K h0 X) rfl ⟨rfl, rfl, rfl, rfl, trivial⟩
set_option maxRecDepth 100000 in
set_option maxHeartbeats 4000000 in
theorem t_X3_give_3 {G : Cx} (hG : am_G G) (N : Nat) : ∀ (n : Nat) (x1 : Int32) (x2 : Int64) (x4 : Int32) (σ : Sg) (r : Sg), b_X3_give_3 N n x1 x2 x4 σ = some r → am_Wp G mX3_give 0 (am_qv r) 3 [some (.ref 8), some (.int x1), some (.long x2), none, some (.int x4)] [] σ := by
  intro n
  induction n with
  | zero => intro x1 x2 x4 σ r h; cases h
  | succ n ih => intro x1 x2 x4 σ r h; exact t_X3_give_3b hG N (b_X3_give_3 N n) ih x1 x2 x4 σ r h
set_option maxRecDepth 100000 in
set_option maxHeartbeats 4000000 in
theorem ct_X3_give {G : Cx} (hG : am_G G) (N : Nat) (x1 : Int32) (x2 : Int64) (σ : Sg) (r : Sg) (h : f_X3_give N x1 x2 σ = some r) : am_Ct G 1 yX3_give mX3_give [.ref 8, .int x1, .long x2] σ (am_qv r) := by
  refine am_enter hG rfl rfl (Nat.le_of_ble_eq_true rfl) ?_
  intro K h0 X
  unfold f_X3_give at h
  refine am_jump (pc' := 0) (ls' := [some (.ref 8), some (.int x1), some (.long x2), none, none]) ?_ rfl ⟨rfl, rfl, rfl, trivial⟩
  refine am_iconst (v := (0 : Int32)) X dX3_give_0 (by decide) ?_
  refine am_istore (ls' := [some (.ref 8), some (.int x1), some (.long x2), none, some (.int (0 : Int32))]) X dX3_give_1 (by decide)  rfl rfl ?_
  exact am_jump (t_X3_give_3 hG N N _ _ _ _ _ h K h0 X) rfl ⟨rfl, rfl, rfl, rfl, trivial⟩
set_option maxRecDepth 100000 in
set_option maxHeartbeats 4000000 in
theorem ct_X3_share {G : Cx} (hG : am_G G) (N : Nat) (x1 : Int32) (σ : Sg) (r : Sg) (h : f_X3_share N x1 σ = some r) : am_Ct G 2 yX3_share mX3_share [.ref 8, .int x1] σ (am_qv r) := by
  refine am_enter hG rfl rfl (Nat.le_of_ble_eq_true rfl) ?_
  intro K h0 X
  unfold f_X3_share at h
  refine am_jump (pc' := 0) (ls' := [some (.ref 8), some (.int x1), none]) ?_ rfl ⟨rfl, rfl, trivial⟩
  refine am_aload_n X dX3_share_0 rfl rfl ?_
  refine am_getf (v := .ref 54) X dX3_share_1 fl_X3_9 rfl rfl (by decide) ?_
  refine am_iload_n X dX3_share_4 rfl rfl ?_
  obtain ⟨g, h⟩ := gd_some h
  refine am_iald X dX3_share_5 rfl g ?_
  obtain ⟨v6, σ6, hc, h⟩ := bd2_some h
  refine am_calls_i1 X dX3_share_6 cw_X3_96 (ct_J6_bitCount_0f7a4 hG N _ _ _ hc) (Nat.le_of_ble_eq_true rfl) rfl (Nat.le_of_ble_eq_true rfl) ?_
  refine am_istore_n (ls' := [some (.ref 8), some (.int x1), some (.int v6)]) X dX3_share_9 rfl (by decide)  rfl rfl ?_
  refine am_iload_n X dX3_share_10 rfl rfl ?_
  refine am_if_ne (tgt := 36) X dX3_share_11 (by decide) (fun c => ?_) (fun c => ?_)
  · have h := if_f h c
    refine am_aload_n X dX3_share_36 rfl rfl ?_
    refine am_iload_n X dX3_share_37 rfl rfl ?_
    refine am_aload_n X dX3_share_38 rfl rfl ?_
    refine am_getf (v := .ref 57) X dX3_share_39 fl_X3_21 rfl rfl (by decide) ?_
    refine am_iload_n X dX3_share_42 rfl rfl ?_
    obtain ⟨g, h⟩ := gd_some h
    refine am_lald X dX3_share_43 rfl g ?_
    refine am_bipush (v := (60 : Int32)) X dX3_share_44 (by decide) ?_
    refine am_iload_n X dX3_share_46 rfl rfl ?_
    obtain ⟨g, h⟩ := gd_some h
    refine am_idiv X dX3_share_47 (of_decide_eq_true g) ?_
    refine am_i2l X dX3_share_48 ?_
    refine am_lmul X dX3_share_49 ?_
    obtain ⟨σ50, hc, h⟩ := bd_some h
    refine am_callv_v2 X dX3_share_50 cw_X3_75 (ct_X3_give hG N _ _ _ _ hc) (Nat.le_of_ble_eq_true rfl) rfl rfl rfl rfl (Nat.le_of_ble_eq_true rfl) ?_
    obtain rfl := Option.some.inj h
    exact am_vret X h0 dX3_share_53 rfl ⟨rfl, rfl⟩
  · have h := if_t h c
    refine am_aload_n X dX3_share_14 rfl rfl ?_
    refine am_getf (v := .ref 58) X dX3_share_15 fl_X3_25 rfl rfl (by decide) ?_
    refine am_iload_n X dX3_share_18 rfl rfl ?_
    refine am_dup2 X dX3_share_19 rfl rfl ?_
    obtain ⟨g, h⟩ := gd_some h
    refine am_lald X dX3_share_20 rfl g ?_
    refine am_aload_n X dX3_share_21 rfl rfl ?_
    refine am_getf (v := .ref 57) X dX3_share_22 fl_X3_21 rfl rfl (by decide) ?_
    refine am_iload_n X dX3_share_25 rfl rfl ?_
    obtain ⟨g, h⟩ := gd_some h
    refine am_lald X dX3_share_26 rfl g ?_
    refine am_ldc2 (v := (60 : Int64)) X dX3_share_27 (wm_r34 _ (List.mem_of_getElem? (i := 11) rfl)) ?_
    refine am_lmul X dX3_share_30 ?_
    refine am_ladd X dX3_share_31 ?_
    obtain ⟨g, h⟩ := gd_some h
    refine am_last X dX3_share_32 rfl g ?_
    refine am_tops h (fun σ32 h => ?_)
    refine am_goto (tgt := 53) X dX3_share_33 (by decide) ?_
    obtain rfl := Option.some.inj h
    exact am_vret X h0 dX3_share_53 rfl ⟨rfl, rfl⟩
set_option maxRecDepth 100000 in
set_option maxHeartbeats 4000000 in
theorem t_X3_chance_36b {G : Cx} (hG : am_G G) (N : Nat) (k11 : Int32 → Int32 → Int32 → Int64 → Int32 → Sg → Option (Int64 × Sg)) (k36 : Int32 → Int32 → Int32 → Int64 → Int32 → Int32 → Sg → Option (Int64 × Sg)) (hk11 : ∀ (x2 : Int32) (x3 : Int32) (x4 : Int32) (x5 : Int64) (x7 : Int32) (σ : Sg) (r : Int64 × Sg), k11 x2 x3 x4 x5 x7 σ = some r → am_Wp G mX3_chance 2 (am_ql r.1 r.2) 11 [some (.ref 8), none, some (.int x2), some (.int x3), some (.int x4), some (.long x5), none, some (.int x7), none] [] σ) (hk36 : ∀ (x2 : Int32) (x3 : Int32) (x4 : Int32) (x5 : Int64) (x7 : Int32) (x8 : Int32) (σ : Sg) (r : Int64 × Sg), k36 x2 x3 x4 x5 x7 x8 σ = some r → am_Wp G mX3_chance 2 (am_ql r.1 r.2) 36 [some (.ref 8), none, some (.int x2), some (.int x3), some (.int x4), some (.long x5), none, some (.int x7), some (.int x8)] [] σ) (x2 : Int32) (x3 : Int32) (x4 : Int32) (x5 : Int64) (x7 : Int32) (x8 : Int32) (σ : Sg) (r : Int64 × Sg) (h : b_X3_chance_36b N k11 k36 x2 x3 x4 x5 x7 x8 σ = some r) : am_Wp G mX3_chance 2 (am_ql r.1 r.2) 36 [some (.ref 8), none, some (.int x2), some (.int x3), some (.int x4), some (.long x5), none, some (.int x7), some (.int x8)] [] σ := by
  intro K h0 X
  unfold b_X3_chance_36b at h
  refine am_iload X dX3_chance_36 rfl ?_
  refine am_aload_n X dX3_chance_38 rfl rfl ?_
  refine am_getf (v := .int (rg σ 8 0)) X dX3_chance_39 fl_X3_34 rfl rfl (by decide) ?_
  refine am_icmp_ge (tgt := 57) X dX3_chance_42 (by decide) (fun c => ?_) (fun c => ?_)
  · have h := if_t h c
    refine am_aload_n X dX3_chance_57 rfl rfl ?_
    refine am_getf (v := .ref 58) X dX3_chance_58 fl_X3_25 rfl rfl (by decide) ?_
    refine am_iconst (v := (0 : Int32)) X dX3_chance_61 (by decide) ?_
    refine am_aload_n X dX3_chance_62 rfl rfl ?_
    refine am_getf (v := .ref 57) X dX3_chance_63 fl_X3_21 rfl rfl (by decide) ?_
    refine am_iconst (v := (0 : Int32)) X dX3_chance_66 (by decide) ?_
    refine am_bipush (v := (7 : Int32)) X dX3_chance_67 (by decide) ?_
    refine am_copyl (n := 7) X dX3_chance_69 (wm_r33 _ (List.mem_of_getElem? (i := 1) rfl)) rfl rfl (by decide) (by decide) (by decide) ⟨Nat.le_add_left 1 _, Nat.le_of_ble_eq_true rfl⟩ ?_
    refine am_tops h (fun σ69 h => ?_)
    refine am_iinc (ls' := fun x7_72 => [some (.ref 8), none, some (.int x2), some (.int x3), some (.int x4), some (.long x5), none, some (.int x7_72), some (.int x8)]) X dX3_chance_72 rfl h (by decide) (by decide) rfl (fun _ => rfl) (fun x7_72 h => ?_)
    refine am_goto (tgt := 11) X dX3_chance_75 (by decide) ?_
    exact am_jump (hk11 _ _ _ _ _ _ _ h K h0 X) rfl ⟨rfl, rfl, rfl, rfl, rfl, rfl, trivial⟩
  · have h := if_f h c
    refine am_aload_n X dX3_chance_45 rfl rfl ?_
    refine am_iload X dX3_chance_46 rfl ?_
    obtain ⟨σ48, hc, h⟩ := bd_some h
    refine am_callv_v1 X dX3_chance_48 cw_X3_87 (ct_X3_share hG N _ _ _ hc) (Nat.le_of_ble_eq_true rfl) rfl rfl rfl rfl (Nat.le_of_ble_eq_true rfl) ?_
    refine am_iinc (ls' := fun x8_51 => [some (.ref 8), none, some (.int x2), some (.int x3), some (.int x4), some (.long x5), none, some (.int x7), some (.int x8_51)]) X dX3_chance_51 rfl h (by decide) (by decide) rfl (fun _ => rfl) (fun x8_51 h => ?_)
    refine am_goto (tgt := 36) X dX3_chance_54 (by decide) ?_
    exact am_jump (hk36 _ _ _ _ _ _ _ _ h K h0 X) rfl ⟨rfl, rfl, rfl, rfl, rfl, rfl, rfl, trivial⟩
set_option maxRecDepth 100000 in
set_option maxHeartbeats 4000000 in
theorem t_X3_chance_36 {G : Cx} (hG : am_G G) (N : Nat) (k11 : Int32 → Int32 → Int32 → Int64 → Int32 → Sg → Option (Int64 × Sg)) (hk11 : ∀ (x2 : Int32) (x3 : Int32) (x4 : Int32) (x5 : Int64) (x7 : Int32) (σ : Sg) (r : Int64 × Sg), k11 x2 x3 x4 x5 x7 σ = some r → am_Wp G mX3_chance 2 (am_ql r.1 r.2) 11 [some (.ref 8), none, some (.int x2), some (.int x3), some (.int x4), some (.long x5), none, some (.int x7), none] [] σ) : ∀ (n : Nat) (x2 : Int32) (x3 : Int32) (x4 : Int32) (x5 : Int64) (x7 : Int32) (x8 : Int32) (σ : Sg) (r : Int64 × Sg), b_X3_chance_36 N k11 n x2 x3 x4 x5 x7 x8 σ = some r → am_Wp G mX3_chance 2 (am_ql r.1 r.2) 36 [some (.ref 8), none, some (.int x2), some (.int x3), some (.int x4), some (.long x5), none, some (.int x7), some (.int x8)] [] σ := by
  intro n
  induction n with
  | zero => intro x2 x3 x4 x5 x7 x8 σ r h; cases h
  | succ n ih => intro x2 x3 x4 x5 x7 x8 σ r h; exact t_X3_chance_36b hG N k11 (b_X3_chance_36 N k11 n) hk11 ih x2 x3 x4 x5 x7 x8 σ r h
set_option maxRecDepth 100000 in
set_option maxHeartbeats 4000000 in
theorem t_X3_chance_11b {G : Cx} (hG : am_G G) (N : Nat) (k11 : Int32 → Int32 → Int32 → Int64 → Int32 → Sg → Option (Int64 × Sg)) (hk11 : ∀ (x2 : Int32) (x3 : Int32) (x4 : Int32) (x5 : Int64) (x7 : Int32) (σ : Sg) (r : Int64 × Sg), k11 x2 x3 x4 x5 x7 σ = some r → am_Wp G mX3_chance 2 (am_ql r.1 r.2) 11 [some (.ref 8), none, some (.int x2), some (.int x3), some (.int x4), some (.long x5), none, some (.int x7), none] [] σ) (x2 : Int32) (x3 : Int32) (x4 : Int32) (x5 : Int64) (x7 : Int32) (σ : Sg) (r : Int64 × Sg) (h : b_X3_chance_11b N k11 x2 x3 x4 x5 x7 σ = some r) : am_Wp G mX3_chance 2 (am_ql r.1 r.2) 11 [some (.ref 8), none, some (.int x2), some (.int x3), some (.int x4), some (.long x5), none, some (.int x7), none] [] σ := by
  intro K h0 X
  unfold b_X3_chance_11b at h
  refine am_iload X dX3_chance_11 rfl ?_
  refine am_iload_n X dX3_chance_13 rfl rfl ?_
  refine am_icmp_ge (tgt := 78) X dX3_chance_14 (by decide) (fun c => ?_) (fun c => ?_)
  · have h := if_t h c
    refine am_aload_n X dX3_chance_78 rfl rfl ?_
    refine am_getf (v := .ref 57) X dX3_chance_79 fl_X3_21 rfl rfl (by decide) ?_
    refine am_iload_n X dX3_chance_82 rfl rfl ?_
    obtain ⟨g, h⟩ := gd_some h
    refine am_lald X dX3_chance_83 rfl g ?_
    refine am_lload X dX3_chance_84 rfl ?_
    obtain ⟨v86, σ86, hc, h⟩ := bd2_some h
    refine am_calls_l2 X dX3_chance_86 cw_X3_90 (ct_X3_commonDivisor hG N _ _ _ _ hc) (Nat.le_of_ble_eq_true rfl) rfl (Nat.le_of_ble_eq_true rfl) ?_
    refine am_lstore (ls' := [some (.ref 8), none, some (.int x2), some (.int x3), some (.int x4), some (.long x5), none, some (.long v86), none]) X dX3_chance_89 (by decide)  rfl rfl ?_
    refine am_lload X dX3_chance_91 rfl ?_
    refine am_lconst (v := (0 : Int64)) X dX3_chance_93 (by decide) ?_
    refine am_lcmp X dX3_chance_94 ?_
    refine am_if_gt (tgt := 102) X dX3_chance_95 (by decide) (fun c => ?_) (fun c => ?_)
    · have h := if_t h c
      refine am_iload X dX3_chance_102 rfl ?_
      refine am_if_ne (tgt := 116) X dX3_chance_104 (by decide) (fun c => ?_) (fun c => ?_)
      · have h := if_f h c
        refine am_lload X dX3_chance_116 rfl ?_
        refine am_lload X dX3_chance_118 rfl ?_
        obtain ⟨g, h⟩ := gd_some h
        refine am_ldiv X dX3_chance_120 (of_decide_eq_true g) ?_
        obtain rfl := Option.some.inj h
        exact am_lret X h0 dX3_chance_121 rfl ⟨rfl, rfl⟩
      · have h := if_t h c
        refine am_aload_n X dX3_chance_107 rfl rfl ?_
        refine am_getf (v := .ref 57) X dX3_chance_108 fl_X3_21 rfl rfl (by decide) ?_
        refine am_iload_n X dX3_chance_111 rfl rfl ?_
        obtain ⟨g, h⟩ := gd_some h
        refine am_lald X dX3_chance_112 rfl g ?_
        refine am_goto (tgt := 118) X dX3_chance_113 (by decide) ?_
        refine am_lload X dX3_chance_118 rfl ?_
        obtain ⟨g, h⟩ := gd_some h
        refine am_ldiv X dX3_chance_120 (of_decide_eq_true g) ?_
        obtain rfl := Option.some.inj h
        exact am_lret X h0 dX3_chance_121 rfl ⟨rfl, rfl⟩
    · have h := if_f h c
      refine am_ldc2 (v := (-9223372036854775808 : Int64)) X dX3_chance_98 (wm_r34 _ (List.mem_of_getElem? (i := 12) rfl)) ?_
      obtain rfl := Option.some.inj h
      exact am_lret X h0 dX3_chance_101 rfl ⟨rfl, rfl⟩
  · have h := if_f h c
    refine am_lload X dX3_chance_17 rfl ?_
    refine am_ldc2 (v := (60 : Int64)) X dX3_chance_19 (wm_r34 _ (List.mem_of_getElem? (i := 11) rfl)) ?_
    refine am_lmul X dX3_chance_22 ?_
    refine am_topl h (fun x5_23 h => ?_)
    refine am_lstore (ls' := [some (.ref 8), none, some (.int x2), some (.int x3), some (.int x4), some (.long x5_23), none, some (.int x7), none]) X dX3_chance_23 (by decide)  rfl rfl ?_
    refine am_aload_n X dX3_chance_25 rfl rfl ?_
    refine am_getf (v := .ref 58) X dX3_chance_26 fl_X3_25 rfl rfl (by decide) ?_
    refine am_lconst (v := (0 : Int64)) X dX3_chance_29 (by decide) ?_
    obtain ⟨σ30, hc, h⟩ := bd_some h
    refine am_calls_v2 X dX3_chance_30 cw_X3_69 (ct_J7_fill_d0a16_v1 hG N _ _ _ hc) (Nat.le_of_ble_eq_true rfl) rfl (Nat.le_of_ble_eq_true rfl) ?_
    refine am_iconst (v := (0 : Int32)) X dX3_chance_33 (by decide) ?_
    refine am_istore (ls' := [some (.ref 8), none, some (.int x2), some (.int x3), some (.int x4), some (.long x5_23), none, some (.int x7), some (.int (0 : Int32))]) X dX3_chance_34 (by decide)  rfl rfl ?_
    exact am_jump (t_X3_chance_36 hG N k11 hk11 N _ _ _ _ _ _ _ _ h K h0 X) rfl ⟨rfl, rfl, rfl, rfl, rfl, rfl, rfl, trivial⟩
set_option maxRecDepth 100000 in
set_option maxHeartbeats 4000000 in
theorem t_X3_chance_11 {G : Cx} (hG : am_G G) (N : Nat) : ∀ (n : Nat) (x2 : Int32) (x3 : Int32) (x4 : Int32) (x5 : Int64) (x7 : Int32) (σ : Sg) (r : Int64 × Sg), b_X3_chance_11 N n x2 x3 x4 x5 x7 σ = some r → am_Wp G mX3_chance 2 (am_ql r.1 r.2) 11 [some (.ref 8), none, some (.int x2), some (.int x3), some (.int x4), some (.long x5), none, some (.int x7), none] [] σ := by
  intro n
  induction n with
  | zero => intro x2 x3 x4 x5 x7 σ r h; cases h
  | succ n ih => intro x2 x3 x4 x5 x7 σ r h; exact t_X3_chance_11b hG N (b_X3_chance_11 N n) ih x2 x3 x4 x5 x7 σ r h
set_option maxRecDepth 100000 in
set_option maxHeartbeats 4000000 in
theorem ct_X3_chance {G : Cx} (hG : am_G G) (N : Nat) (x1 : Int32) (x2 : Int32) (x3 : Int32) (x4 : Int32) (σ : Sg) (r : Int64 × Sg) (h : f_X3_chance N x1 x2 x3 x4 σ = some r) : am_Ct G 3 yX3_chance mX3_chance [.ref 8, .int x1, .int x2, .int x3, .int x4] σ (am_ql r.1 r.2) := by
  refine am_enter hG rfl rfl (Nat.le_of_ble_eq_true rfl) ?_
  intro K h0 X
  unfold f_X3_chance at h
  refine am_jump (pc' := 0) (ls' := [some (.ref 8), some (.int x1), some (.int x2), some (.int x3), some (.int x4), none, none, none, none]) ?_ rfl ⟨rfl, rfl, rfl, rfl, rfl, trivial⟩
  refine am_aload_n X dX3_chance_0 rfl rfl ?_
  refine am_iload_n X dX3_chance_1 rfl rfl ?_
  obtain ⟨σ2, hc, h⟩ := bd_some h
  refine am_callv_v1 X dX3_chance_2 cw_X3_65 (ct_X3_begin hG N _ _ _ hc) (Nat.le_of_ble_eq_true rfl) rfl rfl rfl rfl (Nat.le_of_ble_eq_true rfl) ?_
  refine am_lconst (v := (1 : Int64)) X dX3_chance_5 (by decide) ?_
  refine am_lstore (ls' := [some (.ref 8), some (.int x1), some (.int x2), some (.int x3), some (.int x4), some (.long (1 : Int64)), none, none, none]) X dX3_chance_6 (by decide)  rfl rfl ?_
  refine am_iconst (v := (0 : Int32)) X dX3_chance_8 (by decide) ?_
  refine am_istore (ls' := [some (.ref 8), some (.int x1), some (.int x2), some (.int x3), some (.int x4), some (.long (1 : Int64)), none, some (.int (0 : Int32)), none]) X dX3_chance_9 (by decide)  rfl rfl ?_
  exact am_jump (t_X3_chance_11 hG N N _ _ _ _ _ _ _ h K h0 X) rfl ⟨rfl, rfl, rfl, rfl, rfl, rfl, trivial⟩
set_option maxRecDepth 100000 in
set_option maxHeartbeats 4000000 in
theorem ct_X6_stray {G : Cx} (hG : am_G G) (N : Nat) (x1 : Int32) (x2 : Int32) (x3 : Int32) (x4 : Int32) (σ : Sg) (r : Int64 × Sg) (h : f_X6_stray N x1 x2 x3 x4 σ = some r) : am_Ct G 6 yX6_stray mX6_stray [.ref 0, .int x1, .int x2, .int x3, .int x4] σ (am_ql r.1 r.2) := by
  refine am_enter hG rfl rfl (Nat.le_of_ble_eq_true rfl) ?_
  intro K h0 X
  unfold f_X6_stray at h
  refine am_jump (pc' := 0) (ls' := [some (.ref 0), some (.int x1), some (.int x2), some (.int x3), some (.int x4)]) ?_ rfl ⟨rfl, rfl, rfl, rfl, rfl, trivial⟩
  refine am_aload_n X dX6_stray_0 rfl rfl ?_
  refine am_getf (v := .ref 1) X dX6_stray_1 fl_X6_12 rfl rfl (by decide) ?_
  refine am_iload_n X dX6_stray_4 rfl rfl ?_
  refine am_iload_n X dX6_stray_5 rfl rfl ?_
  obtain ⟨v6, σ6, hc, h⟩ := bd2_some h
  refine am_callv_i2 X dX6_stray_6 cw_X6_143 (ct_X4_hasBoth hG N _ _ _ _ hc) (Nat.le_of_ble_eq_true rfl) rfl rfl rfl rfl (Nat.le_of_ble_eq_true rfl) ?_
  refine am_if_eq (tgt := 33) X dX6_stray_9 (by decide) (fun c => ?_) (fun c => ?_)
  · have h := if_t h c
    refine am_ldc2 (v := (-9223372036854775808 : Int64)) X dX6_stray_33 (wm_r32 _ (List.mem_of_getElem? (i := 20) rfl)) ?_
    obtain rfl := Option.some.inj h
    exact am_lret X h0 dX6_stray_36 rfl ⟨rfl, rfl⟩
  · have h := if_f h c
    refine am_iload_n X dX6_stray_12 rfl rfl ?_
    refine am_if_lt (tgt := 33) X dX6_stray_13 (by decide) (fun c => ?_) (fun c => ?_)
    · have h := if_t h c
      refine am_ldc2 (v := (-9223372036854775808 : Int64)) X dX6_stray_33 (wm_r32 _ (List.mem_of_getElem? (i := 20) rfl)) ?_
      obtain rfl := Option.some.inj h
      exact am_lret X h0 dX6_stray_36 rfl ⟨rfl, rfl⟩
    · have h := if_f h c
      refine am_iload_n X dX6_stray_16 rfl rfl ?_
      refine am_bipush (v := (6 : Int32)) X dX6_stray_17 (by decide) ?_
      refine am_icmp_gt (tgt := 33) X dX6_stray_19 (by decide) (fun c => ?_) (fun c => ?_)
      · have h := if_t h c
        refine am_ldc2 (v := (-9223372036854775808 : Int64)) X dX6_stray_33 (wm_r32 _ (List.mem_of_getElem? (i := 20) rfl)) ?_
        obtain rfl := Option.some.inj h
        exact am_lret X h0 dX6_stray_36 rfl ⟨rfl, rfl⟩
      · have h := if_f h c
        refine am_iload X dX6_stray_22 rfl ?_
        refine am_if_lt (tgt := 33) X dX6_stray_24 (by decide) (fun c => ?_) (fun c => ?_)
        · have h := if_t h c
          refine am_ldc2 (v := (-9223372036854775808 : Int64)) X dX6_stray_33 (wm_r32 _ (List.mem_of_getElem? (i := 20) rfl)) ?_
          obtain rfl := Option.some.inj h
          exact am_lret X h0 dX6_stray_36 rfl ⟨rfl, rfl⟩
        · have h := if_f h c
          refine am_iload X dX6_stray_27 rfl ?_
          refine am_iconst (v := (1 : Int32)) X dX6_stray_29 (by decide) ?_
          refine am_icmp_le (tgt := 37) X dX6_stray_30 (by decide) (fun c => ?_) (fun c => ?_)
          · have h := if_t h c
            refine am_aload_n X dX6_stray_37 rfl rfl ?_
            refine am_getf (v := .ref 8) X dX6_stray_38 fl_X6_42 rfl rfl (by decide) ?_
            refine am_aload_n X dX6_stray_41 rfl rfl ?_
            refine am_getf (v := .ref 1) X dX6_stray_42 fl_X6_12 rfl rfl (by decide) ?_
            obtain ⟨σ45, hc, h⟩ := bd_some h
            refine am_callv_v1 X dX6_stray_45 cw_X6_165 (ct_X3_load hG N _ _ hc) (Nat.le_of_ble_eq_true rfl) rfl rfl rfl rfl (Nat.le_of_ble_eq_true rfl) ?_
            refine am_aload_n X dX6_stray_48 rfl rfl ?_
            refine am_getf (v := .ref 8) X dX6_stray_49 fl_X6_42 rfl rfl (by decide) ?_
            refine am_iload_n X dX6_stray_52 rfl rfl ?_
            refine am_iload_n X dX6_stray_53 rfl rfl ?_
            refine am_iload_n X dX6_stray_54 rfl rfl ?_
            refine am_iload X dX6_stray_55 rfl ?_
            obtain ⟨v57, σ57, hc, h⟩ := bd2_some h
            refine am_callv_l4 X dX6_stray_57 cw_X6_189 (ct_X3_chance hG N _ _ _ _ _ _ hc) (Nat.le_of_ble_eq_true rfl) rfl rfl rfl rfl (Nat.le_of_ble_eq_true rfl) ?_
            obtain rfl := Option.some.inj h
            exact am_lret X h0 dX6_stray_60 rfl ⟨rfl, rfl⟩
          · have h := if_f h c
            refine am_ldc2 (v := (-9223372036854775808 : Int64)) X dX6_stray_33 (wm_r32 _ (List.mem_of_getElem? (i := 20) rfl)) ?_
            obtain rfl := Option.some.inj h
            exact am_lret X h0 dX6_stray_36 rfl ⟨rfl, rfl⟩
set_option maxRecDepth 100000 in
set_option maxHeartbeats 4000000 in
theorem ct_X4_add {G : Cx} (hG : am_G G) (N : Nat) (x1 : Int32) (x2 : Int32) (σ : Sg) (r : Int32 × Sg) (h : f_X4_add N x1 x2 σ = some r) : am_Ct G 1 yX4_add mX4_add [.ref 1, .int x1, .int x2] σ (am_qi r.1 r.2) := by
  refine am_enter hG rfl rfl (Nat.le_of_ble_eq_true rfl) ?_
  intro K h0 X
  unfold f_X4_add at h
  refine am_jump (pc' := 0) (ls' := [some (.ref 1), some (.int x1), some (.int x2), none]) ?_ rfl ⟨rfl, rfl, rfl, trivial⟩
  refine am_aload_n X dX4_add_0 rfl rfl ?_
  refine am_getf (v := .int (rg σ 1 0)) X dX4_add_1 fl_X4_43 rfl rfl (by decide) ?_
  refine am_topi h (fun x3_4 h => ?_)
  refine am_istore_n (ls' := [some (.ref 1), some (.int x1), some (.int x2), some (.int x3_4)]) X dX4_add_4 rfl (by decide)  rfl rfl ?_
  refine am_aload_n X dX4_add_5 rfl rfl ?_
  refine am_getf (v := .ref 10) X dX4_add_6 fl_X4_9 rfl rfl (by decide) ?_
  refine am_iload_n X dX4_add_9 rfl rfl ?_
  refine am_iload_n X dX4_add_10 rfl rfl ?_
  obtain ⟨g, h⟩ := gd_some h
  refine am_iast X dX4_add_11 rfl g ?_
  refine am_tops h (fun σ11 h => ?_)
  refine am_aload_n X dX4_add_12 rfl rfl ?_
  refine am_getf (v := .ref 11) X dX4_add_13 fl_X4_15 rfl rfl (by decide) ?_
  refine am_iload_n X dX4_add_16 rfl rfl ?_
  refine am_iload_n X dX4_add_17 rfl rfl ?_
  obtain ⟨g, h⟩ := gd_some h
  refine am_iast X dX4_add_18 rfl g ?_
  refine am_tops h (fun σ18 h => ?_)
  refine am_aload_n X dX4_add_19 rfl rfl ?_
  refine am_getf (v := .ref 12) X dX4_add_20 fl_X4_18 rfl rfl (by decide) ?_
  refine am_iload_n X dX4_add_23 rfl rfl ?_
  refine am_iconst (v := (0 : Int32)) X dX4_add_24 (by decide) ?_
  obtain ⟨g, h⟩ := gd_some h
  refine am_iast X dX4_add_25 rfl g ?_
  refine am_tops h (fun σ25 h => ?_)
  refine am_aload_n X dX4_add_26 rfl rfl ?_
  refine am_getf (v := .ref 13) X dX4_add_27 fl_X4_21 rfl rfl (by decide) ?_
  refine am_iload_n X dX4_add_30 rfl rfl ?_
  refine am_iconst (v := (0 : Int32)) X dX4_add_31 (by decide) ?_
  obtain ⟨g, h⟩ := gd_some h
  refine am_iast X dX4_add_32 rfl g ?_
  refine am_tops h (fun σ32 h => ?_)
  refine am_aload_n X dX4_add_33 rfl rfl ?_
  refine am_getf (v := .ref 14) X dX4_add_34 fl_X4_24 rfl rfl (by decide) ?_
  refine am_iload_n X dX4_add_37 rfl rfl ?_
  refine am_iconst (v := (0 : Int32)) X dX4_add_38 (by decide) ?_
  obtain ⟨g, h⟩ := gd_some h
  refine am_iast X dX4_add_39 rfl g ?_
  refine am_tops h (fun σ39 h => ?_)
  refine am_aload_n X dX4_add_40 rfl rfl ?_
  refine am_dup X dX4_add_41 rfl ?_
  refine am_getf (v := .int (rg σ39 1 0)) X dX4_add_42 fl_X4_43 rfl rfl (by decide) ?_
  refine am_iconst (v := (1 : Int32)) X dX4_add_45 (by decide) ?_
  refine am_iadd X dX4_add_46 ?_
  refine am_putfi X dX4_add_47 fp_X4_43 rfl rfl ?_
  refine am_tops h (fun σ47 h => ?_)
  refine am_iload_n X dX4_add_50 rfl rfl ?_
  obtain rfl := Option.some.inj h
  exact am_iret X h0 dX4_add_51 rfl ⟨rfl, rfl⟩
set_option maxRecDepth 100000 in
set_option maxHeartbeats 4000000 in
theorem ct_X6_street {G : Cx} (hG : am_G G) (N : Nat) (x1 : Int32) (x2 : Int32) (σ : Sg) (r : Int32 × Sg) (h : f_X6_street N x1 x2 σ = some r) : am_Ct G 2 yX6_street mX6_street [.ref 0, .int x1, .int x2] σ (am_qi r.1 r.2) := by
  refine am_enter hG rfl rfl (Nat.le_of_ble_eq_true rfl) ?_
  intro K h0 X
  unfold f_X6_street at h
  refine am_jump (pc' := 0) (ls' := [some (.ref 0), some (.int x1), some (.int x2)]) ?_ rfl ⟨rfl, rfl, rfl, trivial⟩
  refine am_iload_n X dX6_street_0 rfl rfl ?_
  refine am_if_lt (tgt := 10) X dX6_street_1 (by decide) (fun c => ?_) (fun c => ?_)
  · have h := if_t h c
    refine am_iconst (v := (-1 : Int32)) X dX6_street_10 (by decide) ?_
    obtain rfl := Option.some.inj h
    exact am_iret X h0 dX6_street_11 rfl ⟨rfl, rfl⟩
  · have h := if_f h c
    refine am_iload_n X dX6_street_4 rfl rfl ?_
    refine am_bipush (v := (7 : Int32)) X dX6_street_5 (by decide) ?_
    refine am_icmp_lt (tgt := 12) X dX6_street_7 (by decide) (fun c => ?_) (fun c => ?_)
    · have h := if_t h c
      refine am_iload_n X dX6_street_12 rfl rfl ?_
      refine am_if_lt (tgt := 22) X dX6_street_13 (by decide) (fun c => ?_) (fun c => ?_)
      · have h := if_t h c
        refine am_bipush (v := (-2 : Int32)) X dX6_street_22 (by decide) ?_
        obtain rfl := Option.some.inj h
        exact am_iret X h0 dX6_street_24 rfl ⟨rfl, rfl⟩
      · have h := if_f h c
        refine am_iload_n X dX6_street_16 rfl rfl ?_
        refine am_bipush (v := (9 : Int32)) X dX6_street_17 (by decide) ?_
        refine am_icmp_le (tgt := 25) X dX6_street_19 (by decide) (fun c => ?_) (fun c => ?_)
        · have h := if_t h c
          refine am_aload_n X dX6_street_25 rfl rfl ?_
          refine am_getf (v := .ref 1) X dX6_street_26 fl_X6_12 rfl rfl (by decide) ?_
          refine am_getf (v := .int (rg σ 1 0)) X dX6_street_29 fl_X6_84 rfl rfl (by decide) ?_
          refine am_bipush (v := (7 : Int32)) X dX6_street_32 (by decide) ?_
          refine am_icmp_lt (tgt := 40) X dX6_street_34 (by decide) (fun c => ?_) (fun c => ?_)
          · have h := if_t h c
            refine am_aload_n X dX6_street_40 rfl rfl ?_
            refine am_getf (v := .ref 1) X dX6_street_41 fl_X6_12 rfl rfl (by decide) ?_
            refine am_iload_n X dX6_street_44 rfl rfl ?_
            refine am_iload_n X dX6_street_45 rfl rfl ?_
            obtain ⟨v46, σ46, hc, h⟩ := bd2_some h
            refine am_callv_i2 X dX6_street_46 cw_X6_87 (ct_X4_add hG N _ _ _ _ hc) (Nat.le_of_ble_eq_true rfl) rfl rfl rfl rfl (Nat.le_of_ble_eq_true rfl) ?_
            obtain rfl := Option.some.inj h
            exact am_iret X h0 dX6_street_49 rfl ⟨rfl, rfl⟩
          · have h := if_f h c
            refine am_bipush (v := (-4 : Int32)) X dX6_street_37 (by decide) ?_
            obtain rfl := Option.some.inj h
            exact am_iret X h0 dX6_street_39 rfl ⟨rfl, rfl⟩
        · have h := if_f h c
          refine am_bipush (v := (-2 : Int32)) X dX6_street_22 (by decide) ?_
          obtain rfl := Option.some.inj h
          exact am_iret X h0 dX6_street_24 rfl ⟨rfl, rfl⟩
    · have h := if_f h c
      refine am_iconst (v := (-1 : Int32)) X dX6_street_10 (by decide) ?_
      obtain rfl := Option.some.inj h
      exact am_iret X h0 dX6_street_11 rfl ⟨rfl, rfl⟩
set_option maxRecDepth 100000 in
set_option maxHeartbeats 4000000 in
theorem t_X6_tally_57 {G : Cx} (hG : am_G G) (N : Nat) (x1 : Int32) (x3 : Int32) (σ : Sg) (r : Int32 × Sg) (h : b_X6_tally_57 N x1 x3 σ = some r) : am_Wp G mX6_tally 1 (am_qi r.1 r.2) 57 [none, some (.int x1), none, some (.int x3), none, none] [.ref 13] σ := by
  intro K h0 X
  unfold b_X6_tally_57 at h
  refine am_astore (ls' := [none, some (.int x1), none, some (.int x3), some (.ref 13), none]) X dX6_tally_57 (by decide)  rfl rfl ?_
  refine am_aload X dX6_tally_59 rfl ?_
  refine am_iload_n X dX6_tally_61 rfl rfl ?_
  obtain ⟨g, h⟩ := gd_some h
  refine am_iald X dX6_tally_62 rfl g ?_
  refine am_topi h (fun x5_63 h => ?_)
  refine am_istore (ls' := [none, some (.int x1), none, some (.int x3), some (.ref 13), some (.int x5_63)]) X dX6_tally_63 (by decide)  rfl rfl ?_
  refine am_aload X dX6_tally_65 rfl ?_
  refine am_iload_n X dX6_tally_67 rfl rfl ?_
  refine am_iload_n X dX6_tally_68 rfl rfl ?_
  obtain ⟨g, h⟩ := gd_some h
  refine am_iast X dX6_tally_69 rfl g ?_
  refine am_tops h (fun σ69 h => ?_)
  refine am_iload X dX6_tally_70 rfl ?_
  obtain rfl := Option.some.inj h
  exact am_iret X h0 dX6_tally_72 rfl ⟨rfl, rfl⟩
set_option maxRecDepth 100000 in
set_option maxHeartbeats 4000000 in
theorem t_X6_tally_57_1 {G : Cx} (hG : am_G G) (N : Nat) (x1 : Int32) (x3 : Int32) (σ : Sg) (r : Int32 × Sg) (h : b_X6_tally_57_1 N x1 x3 σ = some r) : am_Wp G mX6_tally 1 (am_qi r.1 r.2) 57 [none, some (.int x1), none, some (.int x3), none, none] [.ref 12] σ := by
  intro K h0 X
  unfold b_X6_tally_57_1 at h
  refine am_astore (ls' := [none, some (.int x1), none, some (.int x3), some (.ref 12), none]) X dX6_tally_57 (by decide)  rfl rfl ?_
  refine am_aload X dX6_tally_59 rfl ?_
  refine am_iload_n X dX6_tally_61 rfl rfl ?_
  obtain ⟨g, h⟩ := gd_some h
  refine am_iald X dX6_tally_62 rfl g ?_
  refine am_topi h (fun x5_63 h => ?_)
  refine am_istore (ls' := [none, some (.int x1), none, some (.int x3), some (.ref 12), some (.int x5_63)]) X dX6_tally_63 (by decide)  rfl rfl ?_
  refine am_aload X dX6_tally_65 rfl ?_
  refine am_iload_n X dX6_tally_67 rfl rfl ?_
  refine am_iload_n X dX6_tally_68 rfl rfl ?_
  obtain ⟨g, h⟩ := gd_some h
  refine am_iast X dX6_tally_69 rfl g ?_
  refine am_tops h (fun σ69 h => ?_)
  refine am_iload X dX6_tally_70 rfl ?_
  obtain rfl := Option.some.inj h
  exact am_iret X h0 dX6_tally_72 rfl ⟨rfl, rfl⟩
set_option maxRecDepth 100000 in
set_option maxHeartbeats 4000000 in
theorem ct_X6_tally {G : Cx} (hG : am_G G) (N : Nat) (x1 : Int32) (x2 : Int32) (x3 : Int32) (σ : Sg) (r : Int32 × Sg) (h : f_X6_tally N x1 x2 x3 σ = some r) : am_Ct G 2 yX6_tally mX6_tally [.ref 0, .int x1, .int x2, .int x3] σ (am_qi r.1 r.2) := by
  refine am_enter hG rfl rfl (Nat.le_of_ble_eq_true rfl) ?_
  intro K h0 X
  unfold f_X6_tally at h
  refine am_jump (pc' := 0) (ls' := [some (.ref 0), some (.int x1), some (.int x2), some (.int x3), none, none]) ?_ rfl ⟨rfl, rfl, rfl, rfl, trivial⟩
  refine am_aload_n X dX6_tally_0 rfl rfl ?_
  refine am_getf (v := .ref 1) X dX6_tally_1 fl_X6_12 rfl rfl (by decide) ?_
  refine am_iload_n X dX6_tally_4 rfl rfl ?_
  obtain ⟨v5, σ5, hc, h⟩ := bd2_some h
  refine am_callv_i1 X dX6_tally_5 cw_X6_97 (ct_X4_has hG N _ _ _ hc) (Nat.le_of_ble_eq_true rfl) rfl rfl rfl rfl (Nat.le_of_ble_eq_true rfl) ?_
  refine am_if_eq (tgt := 20) X dX6_tally_8 (by decide) (fun c => ?_) (fun c => ?_)
  · have h := if_t h c
    refine am_iconst (v := (-1 : Int32)) X dX6_tally_20 (by decide) ?_
    obtain rfl := Option.some.inj h
    exact am_iret X h0 dX6_tally_21 rfl ⟨rfl, rfl⟩
  · have h := if_f h c
    refine am_iload_n X dX6_tally_11 rfl rfl ?_
    refine am_if_lt (tgt := 20) X dX6_tally_12 (by decide) (fun c => ?_) (fun c => ?_)
    · have h := if_t h c
      refine am_iconst (v := (-1 : Int32)) X dX6_tally_20 (by decide) ?_
      obtain rfl := Option.some.inj h
      exact am_iret X h0 dX6_tally_21 rfl ⟨rfl, rfl⟩
    · have h := if_f h c
      refine am_iload_n X dX6_tally_15 rfl rfl ?_
      refine am_iconst (v := (1 : Int32)) X dX6_tally_16 (by decide) ?_
      refine am_icmp_le (tgt := 22) X dX6_tally_17 (by decide) (fun c => ?_) (fun c => ?_)
      · have h := if_t h c
        refine am_iload_n X dX6_tally_22 rfl rfl ?_
        refine am_if_lt (tgt := 33) X dX6_tally_23 (by decide) (fun c => ?_) (fun c => ?_)
        · have h := if_t h c
          refine am_bipush (v := (-2 : Int32)) X dX6_tally_33 (by decide) ?_
          obtain rfl := Option.some.inj h
          exact am_iret X h0 dX6_tally_35 rfl ⟨rfl, rfl⟩
        · have h := if_f h c
          refine am_iload_n X dX6_tally_26 rfl rfl ?_
          refine am_sipush (v := (9999 : Int32)) X dX6_tally_27 (by decide) ?_
          refine am_icmp_le (tgt := 36) X dX6_tally_30 (by decide) (fun c => ?_) (fun c => ?_)
          · have h := if_t h c
            refine am_iload_n X dX6_tally_36 rfl rfl ?_
            refine am_if_ne (tgt := 50) X dX6_tally_37 (by decide) (fun c => ?_) (fun c => ?_)
            · have h := if_f h c
              refine am_aload_n X dX6_tally_50 rfl rfl ?_
              refine am_getf (v := .ref 1) X dX6_tally_51 fl_X6_12 rfl rfl (by decide) ?_
              refine am_getf (v := .ref 13) X dX6_tally_54 fl_X6_111 rfl rfl (by decide) ?_
              exact am_jump (t_X6_tally_57 hG N _ _ _ _ h K h0 X) rfl ⟨rfl, rfl, trivial⟩
            · have h := if_t h c
              refine am_aload_n X dX6_tally_40 rfl rfl ?_
              refine am_getf (v := .ref 1) X dX6_tally_41 fl_X6_12 rfl rfl (by decide) ?_
              refine am_getf (v := .ref 12) X dX6_tally_44 fl_X6_108 rfl rfl (by decide) ?_
              refine am_goto (tgt := 57) X dX6_tally_47 (by decide) ?_
              exact am_jump (t_X6_tally_57_1 hG N _ _ _ _ h K h0 X) rfl ⟨rfl, rfl, trivial⟩
          · have h := if_f h c
            refine am_bipush (v := (-2 : Int32)) X dX6_tally_33 (by decide) ?_
            obtain rfl := Option.some.inj h
            exact am_iret X h0 dX6_tally_35 rfl ⟨rfl, rfl⟩
      · have h := if_f h c
        refine am_iconst (v := (-1 : Int32)) X dX6_tally_20 (by decide) ?_
        obtain rfl := Option.some.inj h
        exact am_iret X h0 dX6_tally_21 rfl ⟨rfl, rfl⟩
set_option maxRecDepth 100000 in
set_option maxHeartbeats 4000000 in
theorem ct_X6_tell {G : Cx} (hG : am_G G) (N : Nat) (x1 : Int32) (x2 : Int32) (σ : Sg) (r : Int32 × Sg) (h : f_X6_tell N x1 x2 σ = some r) : am_Ct G 1 yX6_tell mX6_tell [.ref 0, .int x1, .int x2] σ (am_qi r.1 r.2) := by
  refine am_enter hG rfl rfl (Nat.le_of_ble_eq_true rfl) ?_
  intro K h0 X
  unfold f_X6_tell at h
  refine am_jump (pc' := 0) (ls' := [some (.ref 0), some (.int x1), some (.int x2)]) ?_ rfl ⟨rfl, rfl, rfl, trivial⟩
  refine am_iload_n X dX6_tell_0 rfl rfl ?_
  refine am_iconst (v := (-1 : Int32)) X dX6_tell_1 (by decide) ?_
  refine am_icmp_ne (tgt := 15) X dX6_tell_2 (by decide) (fun c => ?_) (fun c => ?_)
  · have h := if_f h c
    refine am_iload_n X dX6_tell_15 rfl rfl ?_
    refine am_if_lt (tgt := 37) X dX6_tell_16 (by decide) (fun c => ?_) (fun c => ?_)
    · have h := if_t h c
      refine am_bipush (v := (-2 : Int32)) X dX6_tell_37 (by decide) ?_
      obtain rfl := Option.some.inj h
      exact am_iret X h0 dX6_tell_39 rfl ⟨rfl, rfl⟩
    · have h := if_f h c
      refine am_iload_n X dX6_tell_19 rfl rfl ?_
      refine am_sipush (v := (999 : Int32)) X dX6_tell_20 (by decide) ?_
      refine am_icmp_gt (tgt := 37) X dX6_tell_23 (by decide) (fun c => ?_) (fun c => ?_)
      · have h := if_t h c
        refine am_bipush (v := (-2 : Int32)) X dX6_tell_37 (by decide) ?_
        obtain rfl := Option.some.inj h
        exact am_iret X h0 dX6_tell_39 rfl ⟨rfl, rfl⟩
      · have h := if_f h c
        refine am_iload_n X dX6_tell_26 rfl rfl ?_
        refine am_if_lt (tgt := 37) X dX6_tell_27 (by decide) (fun c => ?_) (fun c => ?_)
        · have h := if_t h c
          refine am_bipush (v := (-2 : Int32)) X dX6_tell_37 (by decide) ?_
          obtain rfl := Option.some.inj h
          exact am_iret X h0 dX6_tell_39 rfl ⟨rfl, rfl⟩
        · have h := if_f h c
          refine am_iload_n X dX6_tell_30 rfl rfl ?_
          refine am_sipush (v := (999 : Int32)) X dX6_tell_31 (by decide) ?_
          refine am_icmp_le (tgt := 40) X dX6_tell_34 (by decide) (fun c => ?_) (fun c => ?_)
          · have h := if_t h c
            refine am_aload_n X dX6_tell_40 rfl rfl ?_
            refine am_getf (v := .ref 1) X dX6_tell_41 fl_X6_12 rfl rfl (by decide) ?_
            refine am_getf (v := .int (rg σ 1 11)) X dX6_tell_44 fl_X6_193 rfl rfl (by decide) ?_
            refine am_bipush (v := (7 : Int32)) X dX6_tell_47 (by decide) ?_
            refine am_icmp_lt (tgt := 55) X dX6_tell_49 (by decide) (fun c => ?_) (fun c => ?_)
            · have h := if_t h c
              refine am_aload_n X dX6_tell_55 rfl rfl ?_
              refine am_getf (v := .ref 1) X dX6_tell_56 fl_X6_12 rfl rfl (by decide) ?_
              refine am_getf (v := .ref 16) X dX6_tell_59 fl_X6_196 rfl rfl (by decide) ?_
              refine am_aload_n X dX6_tell_62 rfl rfl ?_
              refine am_getf (v := .ref 1) X dX6_tell_63 fl_X6_12 rfl rfl (by decide) ?_
              refine am_getf (v := .int (rg σ 1 11)) X dX6_tell_66 fl_X6_193 rfl rfl (by decide) ?_
              refine am_iload_n X dX6_tell_69 rfl rfl ?_
              obtain ⟨g, h⟩ := gd_some h
              refine am_iast X dX6_tell_70 rfl g ?_
              refine am_tops h (fun σ70 h => ?_)
              refine am_aload_n X dX6_tell_71 rfl rfl ?_
              refine am_getf (v := .ref 1) X dX6_tell_72 fl_X6_12 rfl rfl (by decide) ?_
              refine am_getf (v := .ref 17) X dX6_tell_75 fl_X6_199 rfl rfl (by decide) ?_
              refine am_aload_n X dX6_tell_78 rfl rfl ?_
              refine am_getf (v := .ref 1) X dX6_tell_79 fl_X6_12 rfl rfl (by decide) ?_
              refine am_getf (v := .int (rg σ70 1 11)) X dX6_tell_82 fl_X6_193 rfl rfl (by decide) ?_
              refine am_iload_n X dX6_tell_85 rfl rfl ?_
              obtain ⟨g, h⟩ := gd_some h
              refine am_iast X dX6_tell_86 rfl g ?_
              refine am_tops h (fun σ86 h => ?_)
              refine am_aload_n X dX6_tell_87 rfl rfl ?_
              refine am_getf (v := .ref 1) X dX6_tell_88 fl_X6_12 rfl rfl (by decide) ?_
              refine am_dup X dX6_tell_91 rfl ?_
              refine am_getf (v := .int (rg σ86 1 11)) X dX6_tell_92 fl_X6_193 rfl rfl (by decide) ?_
              refine am_iconst (v := (1 : Int32)) X dX6_tell_95 (by decide) ?_
              refine am_iadd X dX6_tell_96 ?_
              refine am_putfi X dX6_tell_97 fp_X6_193 rfl rfl ?_
              refine am_tops h (fun σ97 h => ?_)
              refine am_aload_n X dX6_tell_100 rfl rfl ?_
              refine am_getf (v := .ref 1) X dX6_tell_101 fl_X6_12 rfl rfl (by decide) ?_
              refine am_getf (v := .int (rg σ97 1 11)) X dX6_tell_104 fl_X6_193 rfl rfl (by decide) ?_
              obtain rfl := Option.some.inj h
              exact am_iret X h0 dX6_tell_107 rfl ⟨rfl, rfl⟩
            · have h := if_f h c
              refine am_bipush (v := (-4 : Int32)) X dX6_tell_52 (by decide) ?_
              obtain rfl := Option.some.inj h
              exact am_iret X h0 dX6_tell_54 rfl ⟨rfl, rfl⟩
          · have h := if_f h c
            refine am_bipush (v := (-2 : Int32)) X dX6_tell_37 (by decide) ?_
            obtain rfl := Option.some.inj h
            exact am_iret X h0 dX6_tell_39 rfl ⟨rfl, rfl⟩
  · have h := if_t h c
    refine am_aload_n X dX6_tell_5 rfl rfl ?_
    refine am_getf (v := .ref 1) X dX6_tell_6 fl_X6_12 rfl rfl (by decide) ?_
    refine am_iconst (v := (0 : Int32)) X dX6_tell_9 (by decide) ?_
    refine am_putfi X dX6_tell_10 fp_X6_193 rfl rfl ?_
    refine am_tops h (fun σ10 h => ?_)
    refine am_iconst (v := (0 : Int32)) X dX6_tell_13 (by decide) ?_
    obtain rfl := Option.some.inj h
    exact am_iret X h0 dX6_tell_14 rfl ⟨rfl, rfl⟩
set_option maxRecDepth 100000 in
set_option maxHeartbeats 4000000 in
theorem t_X4_paysOfAll_4b {G : Cx} (hG : am_G G) (N : Nat) (k4 : Int32 → Int32 → Sg → Option (Int32 × Sg)) (hk4 : ∀ (x1 : Int32) (x2 : Int32) (σ : Sg) (r : Int32 × Sg), k4 x1 x2 σ = some r → am_Wp G mX4_paysOfAll 5 (am_qi r.1 r.2) 4 [some (.ref 1), some (.int x1), some (.int x2)] [] σ) (x1 : Int32) (x2 : Int32) (σ : Sg) (r : Int32 × Sg) (h : b_X4_paysOfAll_4b N k4 x1 x2 σ = some r) : am_Wp G mX4_paysOfAll 5 (am_qi r.1 r.2) 4 [some (.ref 1), some (.int x1), some (.int x2)] [] σ := by
  intro K h0 X
  unfold b_X4_paysOfAll_4b at h
  refine am_iload_n X dX4_paysOfAll_4 rfl rfl ?_
  refine am_aload_n X dX4_paysOfAll_5 rfl rfl ?_
  refine am_getf (v := .int (rg σ 1 0)) X dX4_paysOfAll_6 fl_X4_43 rfl rfl (by decide) ?_
  refine am_icmp_ge (tgt := 26) X dX4_paysOfAll_9 (by decide) (fun c => ?_) (fun c => ?_)
  · have h := if_t h c
    refine am_iload_n X dX4_paysOfAll_26 rfl rfl ?_
    obtain rfl := Option.some.inj h
    exact am_iret X h0 dX4_paysOfAll_27 rfl ⟨rfl, rfl⟩
  · have h := if_f h c
    refine am_iload_n X dX4_paysOfAll_12 rfl rfl ?_
    refine am_aload_n X dX4_paysOfAll_13 rfl rfl ?_
    refine am_iload_n X dX4_paysOfAll_14 rfl rfl ?_
    obtain ⟨v15, σ15, hc, h⟩ := bd2_some h
    refine am_callv_i1 X dX4_paysOfAll_15 cw_X4_102 (ct_X4_pays hG N _ _ _ hc) (Nat.le_of_ble_eq_true rfl) rfl rfl rfl rfl (Nat.le_of_ble_eq_true rfl) ?_
    refine am_iadd X dX4_paysOfAll_18 ?_
    refine am_topi h (fun x1_19 h => ?_)
    refine am_istore_n (ls' := [some (.ref 1), some (.int x1_19), some (.int x2)]) X dX4_paysOfAll_19 rfl (by decide)  rfl rfl ?_
    refine am_iinc (ls' := fun x2_20 => [some (.ref 1), some (.int x1_19), some (.int x2_20)]) X dX4_paysOfAll_20 rfl h (by decide) (by decide) rfl (fun _ => rfl) (fun x2_20 h => ?_)
    refine am_goto (tgt := 4) X dX4_paysOfAll_23 (by decide) ?_
    exact am_jump (hk4 _ _ _ _ h K h0 X) rfl ⟨rfl, rfl, rfl, trivial⟩
set_option maxRecDepth 100000 in
set_option maxHeartbeats 4000000 in
theorem t_X4_paysOfAll_4 {G : Cx} (hG : am_G G) (N : Nat) : ∀ (n : Nat) (x1 : Int32) (x2 : Int32) (σ : Sg) (r : Int32 × Sg), b_X4_paysOfAll_4 N n x1 x2 σ = some r → am_Wp G mX4_paysOfAll 5 (am_qi r.1 r.2) 4 [some (.ref 1), some (.int x1), some (.int x2)] [] σ := by
  intro n
  induction n with
  | zero => intro x1 x2 σ r h; cases h
  | succ n ih => intro x1 x2 σ r h; exact t_X4_paysOfAll_4b hG N (b_X4_paysOfAll_4 N n) ih x1 x2 σ r h
set_option maxRecDepth 100000 in
set_option maxHeartbeats 4000000 in
theorem ct_X4_paysOfAll {G : Cx} (hG : am_G G) (N : Nat) (σ : Sg) (r : Int32 × Sg) (h : f_X4_paysOfAll N σ = some r) : am_Ct G 6 yX4_paysOfAll mX4_paysOfAll [.ref 1] σ (am_qi r.1 r.2) := by
  refine am_enter hG rfl rfl (Nat.le_of_ble_eq_true rfl) ?_
  intro K h0 X
  unfold f_X4_paysOfAll at h
  refine am_jump (pc' := 0) (ls' := [some (.ref 1), none, none]) ?_ rfl ⟨rfl, trivial⟩
  refine am_iconst (v := (0 : Int32)) X dX4_paysOfAll_0 (by decide) ?_
  refine am_istore_n (ls' := [some (.ref 1), some (.int (0 : Int32)), none]) X dX4_paysOfAll_1 rfl (by decide)  rfl rfl ?_
  refine am_iconst (v := (0 : Int32)) X dX4_paysOfAll_2 (by decide) ?_
  refine am_istore_n (ls' := [some (.ref 1), some (.int (0 : Int32)), some (.int (0 : Int32))]) X dX4_paysOfAll_3 rfl (by decide)  rfl rfl ?_
  exact am_jump (t_X4_paysOfAll_4 hG N N _ _ _ _ h K h0 X) rfl ⟨rfl, rfl, rfl, trivial⟩
set_option maxRecDepth 100000 in
set_option maxHeartbeats 4000000 in
theorem t_X4_unevenOfAll_4b {G : Cx} (hG : am_G G) (N : Nat) (k4 : Int32 → Int32 → Sg → Option (Int32 × Sg)) (hk4 : ∀ (x1 : Int32) (x2 : Int32) (σ : Sg) (r : Int32 × Sg), k4 x1 x2 σ = some r → am_Wp G mX4_unevenOfAll 1 (am_qi r.1 r.2) 4 [some (.ref 1), some (.int x1), some (.int x2)] [] σ) (x1 : Int32) (x2 : Int32) (σ : Sg) (r : Int32 × Sg) (h : b_X4_unevenOfAll_4b N k4 x1 x2 σ = some r) : am_Wp G mX4_unevenOfAll 1 (am_qi r.1 r.2) 4 [some (.ref 1), some (.int x1), some (.int x2)] [] σ := by
  intro K h0 X
  unfold b_X4_unevenOfAll_4b at h
  refine am_iload_n X dX4_unevenOfAll_4 rfl rfl ?_
  refine am_aload_n X dX4_unevenOfAll_5 rfl rfl ?_
  refine am_getf (v := .int (rg σ 1 0)) X dX4_unevenOfAll_6 fl_X4_43 rfl rfl (by decide) ?_
  refine am_icmp_ge (tgt := 26) X dX4_unevenOfAll_9 (by decide) (fun c => ?_) (fun c => ?_)
  · have h := if_t h c
    refine am_iload_n X dX4_unevenOfAll_26 rfl rfl ?_
    obtain rfl := Option.some.inj h
    exact am_iret X h0 dX4_unevenOfAll_27 rfl ⟨rfl, rfl⟩
  · have h := if_f h c
    refine am_iload_n X dX4_unevenOfAll_12 rfl rfl ?_
    refine am_aload_n X dX4_unevenOfAll_13 rfl rfl ?_
    refine am_iload_n X dX4_unevenOfAll_14 rfl rfl ?_
    obtain ⟨v15, σ15, hc, h⟩ := bd2_some h
    refine am_callv_i1 X dX4_unevenOfAll_15 cw_X4_81 (ct_X4_uneven hG N _ _ _ hc) (Nat.le_of_ble_eq_true rfl) rfl rfl rfl rfl (Nat.le_of_ble_eq_true rfl) ?_
    refine am_iadd X dX4_unevenOfAll_18 ?_
    refine am_topi h (fun x1_19 h => ?_)
    refine am_istore_n (ls' := [some (.ref 1), some (.int x1_19), some (.int x2)]) X dX4_unevenOfAll_19 rfl (by decide)  rfl rfl ?_
    refine am_iinc (ls' := fun x2_20 => [some (.ref 1), some (.int x1_19), some (.int x2_20)]) X dX4_unevenOfAll_20 rfl h (by decide) (by decide) rfl (fun _ => rfl) (fun x2_20 h => ?_)
    refine am_goto (tgt := 4) X dX4_unevenOfAll_23 (by decide) ?_
    exact am_jump (hk4 _ _ _ _ h K h0 X) rfl ⟨rfl, rfl, rfl, trivial⟩
set_option maxRecDepth 100000 in
set_option maxHeartbeats 4000000 in
theorem t_X4_unevenOfAll_4 {G : Cx} (hG : am_G G) (N : Nat) : ∀ (n : Nat) (x1 : Int32) (x2 : Int32) (σ : Sg) (r : Int32 × Sg), b_X4_unevenOfAll_4 N n x1 x2 σ = some r → am_Wp G mX4_unevenOfAll 1 (am_qi r.1 r.2) 4 [some (.ref 1), some (.int x1), some (.int x2)] [] σ := by
  intro n
  induction n with
  | zero => intro x1 x2 σ r h; cases h
  | succ n ih => intro x1 x2 σ r h; exact t_X4_unevenOfAll_4b hG N (b_X4_unevenOfAll_4 N n) ih x1 x2 σ r h
set_option maxRecDepth 100000 in
set_option maxHeartbeats 4000000 in
theorem ct_X4_unevenOfAll {G : Cx} (hG : am_G G) (N : Nat) (σ : Sg) (r : Int32 × Sg) (h : f_X4_unevenOfAll N σ = some r) : am_Ct G 2 yX4_unevenOfAll mX4_unevenOfAll [.ref 1] σ (am_qi r.1 r.2) := by
  refine am_enter hG rfl rfl (Nat.le_of_ble_eq_true rfl) ?_
  intro K h0 X
  unfold f_X4_unevenOfAll at h
  refine am_jump (pc' := 0) (ls' := [some (.ref 1), none, none]) ?_ rfl ⟨rfl, trivial⟩
  refine am_iconst (v := (0 : Int32)) X dX4_unevenOfAll_0 (by decide) ?_
  refine am_istore_n (ls' := [some (.ref 1), some (.int (0 : Int32)), none]) X dX4_unevenOfAll_1 rfl (by decide)  rfl rfl ?_
  refine am_iconst (v := (0 : Int32)) X dX4_unevenOfAll_2 (by decide) ?_
  refine am_istore_n (ls' := [some (.ref 1), some (.int (0 : Int32)), some (.int (0 : Int32))]) X dX4_unevenOfAll_3 rfl (by decide)  rfl rfl ?_
  exact am_jump (t_X4_unevenOfAll_4 hG N N _ _ _ _ h K h0 X) rfl ⟨rfl, rfl, rfl, trivial⟩
