set_option maxRecDepth 100000 in
set_option maxHeartbeats 4000000 in
theorem t_X3_walks_25b {G : Cx} (hG : am_G G) (N : Nat) (k8 : Int32 → Int32 → Int32 → Sg → Option (Int64 × Sg)) (k25 : Int32 → Int32 → Int32 → Int32 → Sg → Option (Int64 × Sg)) (hk8 : ∀ (x2 : Int32) (x3 : Int32) (x4 : Int32) (σ : Sg) (r : Int64 × Sg), k8 x2 x3 x4 σ = some r → am_Wp G mX3_walks 2 (am_ql r.1 r.2) 8 [some (.ref 8), none, some (.int x2), some (.int x3), some (.int x4), none] [] σ) (hk25 : ∀ (x2 : Int32) (x3 : Int32) (x4 : Int32) (x5 : Int32) (σ : Sg) (r : Int64 × Sg), k25 x2 x3 x4 x5 σ = some r → am_Wp G mX3_walks 2 (am_ql r.1 r.2) 25 [some (.ref 8), none, some (.int x2), some (.int x3), some (.int x4), some (.int x5)] [] σ) (x2 : Int32) (x3 : Int32) (x4 : Int32) (x5 : Int32) (σ : Sg) (r : Int64 × Sg) (h : b_X3_walks_25b N k8 k25 x2 x3 x4 x5 σ = some r) : am_Wp G mX3_walks 2 (am_ql r.1 r.2) 25 [some (.ref 8), none, some (.int x2), some (.int x3), some (.int x4), some (.int x5)] [] σ := by
  intro K h0 X
  unfold b_X3_walks_25b at h
  refine am_iload X dX3_walks_25 rfl ?_
  refine am_aload_n X dX3_walks_27 rfl rfl ?_
  refine am_getf (v := .int (rg σ 8 0)) X dX3_walks_28 fl_X3_34 rfl rfl (by decide) ?_
  refine am_icmp_ge (tgt := 53) X dX3_walks_31 (by decide) (fun c => ?_) (fun c => ?_)
  · have h := if_t h c
    refine am_aload_n X dX3_walks_53 rfl rfl ?_
    refine am_getf (v := .ref 58) X dX3_walks_54 fl_X3_25 rfl rfl (by decide) ?_
    refine am_iconst (v := (0 : Int32)) X dX3_walks_57 (by decide) ?_
    refine am_aload_n X dX3_walks_58 rfl rfl ?_
    refine am_getf (v := .ref 57) X dX3_walks_59 fl_X3_21 rfl rfl (by decide) ?_
    refine am_iconst (v := (0 : Int32)) X dX3_walks_62 (by decide) ?_
    refine am_bipush (v := (7 : Int32)) X dX3_walks_63 (by decide) ?_
    refine am_copyl (n := 7) X dX3_walks_65 (wm_r33 _ (List.mem_of_getElem? (i := 1) rfl)) rfl rfl (by decide) (by decide) (by decide) ⟨Nat.le_add_left 1 _, Nat.le_of_ble_eq_true rfl⟩ ?_
    refine am_tops h (fun σ65 h => ?_)
    refine am_iinc (ls' := fun x4_68 => [some (.ref 8), none, some (.int x2), some (.int x3), some (.int x4_68), some (.int x5)]) X dX3_walks_68 rfl h (by decide) (by decide) rfl (fun _ => rfl) (fun x4_68 h => ?_)
    refine am_goto (tgt := 8) X dX3_walks_71 (by decide) ?_
    exact am_jump (hk8 _ _ _ _ _ h K h0 X) rfl ⟨rfl, rfl, rfl, rfl, trivial⟩
  · have h := if_f h c
    refine am_aload_n X dX3_walks_34 rfl rfl ?_
    refine am_iload X dX3_walks_35 rfl ?_
    refine am_aload_n X dX3_walks_37 rfl rfl ?_
    refine am_getf (v := .ref 57) X dX3_walks_38 fl_X3_21 rfl rfl (by decide) ?_
    refine am_iload X dX3_walks_41 rfl ?_
    obtain ⟨g, h⟩ := gd_some h
    refine am_lald X dX3_walks_43 rfl g ?_
    obtain ⟨σ44, hc, h⟩ := bd_some h
    refine am_callv_v2 X dX3_walks_44 cw_X3_75 (ct_X3_give hG N _ _ _ _ hc) (Nat.le_of_ble_eq_true rfl) rfl rfl rfl rfl (Nat.le_of_ble_eq_true rfl) ?_
    refine am_iinc (ls' := fun x5_47 => [some (.ref 8), none, some (.int x2), some (.int x3), some (.int x4), some (.int x5_47)]) X dX3_walks_47 rfl h (by decide) (by decide) rfl (fun _ => rfl) (fun x5_47 h => ?_)
    refine am_goto (tgt := 25) X dX3_walks_50 (by decide) ?_
    exact am_jump (hk25 _ _ _ _ _ _ h K h0 X) rfl ⟨rfl, rfl, rfl, rfl, rfl, trivial⟩
set_option maxRecDepth 100000 in
set_option maxHeartbeats 4000000 in
theorem t_X3_walks_25 {G : Cx} (hG : am_G G) (N : Nat) (k8 : Int32 → Int32 → Int32 → Sg → Option (Int64 × Sg)) (hk8 : ∀ (x2 : Int32) (x3 : Int32) (x4 : Int32) (σ : Sg) (r : Int64 × Sg), k8 x2 x3 x4 σ = some r → am_Wp G mX3_walks 2 (am_ql r.1 r.2) 8 [some (.ref 8), none, some (.int x2), some (.int x3), some (.int x4), none] [] σ) : ∀ (n : Nat) (x2 : Int32) (x3 : Int32) (x4 : Int32) (x5 : Int32) (σ : Sg) (r : Int64 × Sg), b_X3_walks_25 N k8 n x2 x3 x4 x5 σ = some r → am_Wp G mX3_walks 2 (am_ql r.1 r.2) 25 [some (.ref 8), none, some (.int x2), some (.int x3), some (.int x4), some (.int x5)] [] σ := by
  intro n
  induction n with
  | zero => intro x2 x3 x4 x5 σ r h; cases h
  | succ n ih => intro x2 x3 x4 x5 σ r h; exact t_X3_walks_25b hG N k8 (b_X3_walks_25 N k8 n) hk8 ih x2 x3 x4 x5 σ r h
set_option maxRecDepth 100000 in
set_option maxHeartbeats 4000000 in
theorem t_X3_walks_8b {G : Cx} (hG : am_G G) (N : Nat) (k8 : Int32 → Int32 → Int32 → Sg → Option (Int64 × Sg)) (hk8 : ∀ (x2 : Int32) (x3 : Int32) (x4 : Int32) (σ : Sg) (r : Int64 × Sg), k8 x2 x3 x4 σ = some r → am_Wp G mX3_walks 2 (am_ql r.1 r.2) 8 [some (.ref 8), none, some (.int x2), some (.int x3), some (.int x4), none] [] σ) (x2 : Int32) (x3 : Int32) (x4 : Int32) (σ : Sg) (r : Int64 × Sg) (h : b_X3_walks_8b N k8 x2 x3 x4 σ = some r) : am_Wp G mX3_walks 2 (am_ql r.1 r.2) 8 [some (.ref 8), none, some (.int x2), some (.int x3), some (.int x4), none] [] σ := by
  intro K h0 X
  unfold b_X3_walks_8b at h
  refine am_iload X dX3_walks_8 rfl ?_
  refine am_iload_n X dX3_walks_10 rfl rfl ?_
  refine am_icmp_ge (tgt := 74) X dX3_walks_11 (by decide) (fun c => ?_) (fun c => ?_)
  · have h := if_t h c
    refine am_aload_n X dX3_walks_74 rfl rfl ?_
    refine am_getf (v := .ref 57) X dX3_walks_75 fl_X3_21 rfl rfl (by decide) ?_
    refine am_iload_n X dX3_walks_78 rfl rfl ?_
    obtain ⟨g, h⟩ := gd_some h
    refine am_lald X dX3_walks_79 rfl g ?_
    obtain rfl := Option.some.inj h
    exact am_lret X h0 dX3_walks_80 rfl ⟨rfl, rfl⟩
  · have h := if_f h c
    refine am_aload_n X dX3_walks_14 rfl rfl ?_
    refine am_getf (v := .ref 58) X dX3_walks_15 fl_X3_25 rfl rfl (by decide) ?_
    refine am_lconst (v := (0 : Int64)) X dX3_walks_18 (by decide) ?_
    obtain ⟨σ19, hc, h⟩ := bd_some h
    refine am_calls_v2 X dX3_walks_19 cw_X3_69 (ct_J7_fill_d0a16_v1 hG N _ _ _ hc) (Nat.le_of_ble_eq_true rfl) rfl (Nat.le_of_ble_eq_true rfl) ?_
    refine am_iconst (v := (0 : Int32)) X dX3_walks_22 (by decide) ?_
    refine am_istore (ls' := [some (.ref 8), none, some (.int x2), some (.int x3), some (.int x4), some (.int (0 : Int32))]) X dX3_walks_23 (by decide)  rfl rfl ?_
    exact am_jump (t_X3_walks_25 hG N k8 hk8 N _ _ _ _ _ _ h K h0 X) rfl ⟨rfl, rfl, rfl, rfl, rfl, trivial⟩
set_option maxRecDepth 100000 in
set_option maxHeartbeats 4000000 in
theorem t_X3_walks_8 {G : Cx} (hG : am_G G) (N : Nat) : ∀ (n : Nat) (x2 : Int32) (x3 : Int32) (x4 : Int32) (σ : Sg) (r : Int64 × Sg), b_X3_walks_8 N n x2 x3 x4 σ = some r → am_Wp G mX3_walks 2 (am_ql r.1 r.2) 8 [some (.ref 8), none, some (.int x2), some (.int x3), some (.int x4), none] [] σ := by
  intro n
  induction n with
  | zero => intro x2 x3 x4 σ r h; cases h
  | succ n ih => intro x2 x3 x4 σ r h; exact t_X3_walks_8b hG N (b_X3_walks_8 N n) ih x2 x3 x4 σ r h
set_option maxRecDepth 100000 in
set_option maxHeartbeats 4000000 in
theorem ct_X3_walks {G : Cx} (hG : am_G G) (N : Nat) (x1 : Int32) (x2 : Int32) (x3 : Int32) (σ : Sg) (r : Int64 × Sg) (h : f_X3_walks N x1 x2 x3 σ = some r) : am_Ct G 3 yX3_walks mX3_walks [.ref 8, .int x1, .int x2, .int x3] σ (am_ql r.1 r.2) := by
  refine am_enter hG rfl rfl (Nat.le_of_ble_eq_true rfl) ?_
  intro K h0 X
  unfold f_X3_walks at h
  refine am_jump (pc' := 0) (ls' := [some (.ref 8), some (.int x1), some (.int x2), some (.int x3), none, none]) ?_ rfl ⟨rfl, rfl, rfl, rfl, trivial⟩
  refine am_aload_n X dX3_walks_0 rfl rfl ?_
  refine am_iload_n X dX3_walks_1 rfl rfl ?_
  obtain ⟨σ2, hc, h⟩ := bd_some h
  refine am_callv_v1 X dX3_walks_2 cw_X3_65 (ct_X3_begin hG N _ _ _ hc) (Nat.le_of_ble_eq_true rfl) rfl rfl rfl rfl (Nat.le_of_ble_eq_true rfl) ?_
  refine am_iconst (v := (0 : Int32)) X dX3_walks_5 (by decide) ?_
  refine am_istore (ls' := [some (.ref 8), some (.int x1), some (.int x2), some (.int x3), some (.int (0 : Int32)), none]) X dX3_walks_6 (by decide)  rfl rfl ?_
  exact am_jump (t_X3_walks_8 hG N N _ _ _ _ _ h K h0 X) rfl ⟨rfl, rfl, rfl, rfl, trivial⟩
set_option maxRecDepth 100000 in
set_option maxHeartbeats 4000000 in
theorem ct_X6_ways {G : Cx} (hG : am_G G) (N : Nat) (x1 : Int32) (x2 : Int32) (x3 : Int32) (σ : Sg) (r : Int64 × Sg) (h : f_X6_ways N x1 x2 x3 σ = some r) : am_Ct G 6 yX6_ways mX6_ways [.ref 0, .int x1, .int x2, .int x3] σ (am_ql r.1 r.2) := by
  refine am_enter hG rfl rfl (Nat.le_of_ble_eq_true rfl) ?_
  intro K h0 X
  unfold f_X6_ways at h
  refine am_jump (pc' := 0) (ls' := [some (.ref 0), some (.int x1), some (.int x2), some (.int x3)]) ?_ rfl ⟨rfl, rfl, rfl, rfl, trivial⟩
  refine am_aload_n X dX6_ways_0 rfl rfl ?_
  refine am_getf (v := .ref 1) X dX6_ways_1 fl_X6_12 rfl rfl (by decide) ?_
  refine am_iload_n X dX6_ways_4 rfl rfl ?_
  refine am_iload_n X dX6_ways_5 rfl rfl ?_
  obtain ⟨v6, σ6, hc, h⟩ := bd2_some h
  refine am_callv_i2 X dX6_ways_6 cw_X6_143 (ct_X4_hasBoth hG N _ _ _ _ hc) (Nat.le_of_ble_eq_true rfl) rfl rfl rfl rfl (Nat.le_of_ble_eq_true rfl) ?_
  refine am_if_eq (tgt := 22) X dX6_ways_9 (by decide) (fun c => ?_) (fun c => ?_)
  · have h := if_t h c
    refine am_ldc2 (v := (-9223372036854775808 : Int64)) X dX6_ways_22 (wm_r32 _ (List.mem_of_getElem? (i := 20) rfl)) ?_
    obtain rfl := Option.some.inj h
    exact am_lret X h0 dX6_ways_25 rfl ⟨rfl, rfl⟩
  · have h := if_f h c
    refine am_iload_n X dX6_ways_12 rfl rfl ?_
    refine am_if_lt (tgt := 22) X dX6_ways_13 (by decide) (fun c => ?_) (fun c => ?_)
    · have h := if_t h c
      refine am_ldc2 (v := (-9223372036854775808 : Int64)) X dX6_ways_22 (wm_r32 _ (List.mem_of_getElem? (i := 20) rfl)) ?_
      obtain rfl := Option.some.inj h
      exact am_lret X h0 dX6_ways_25 rfl ⟨rfl, rfl⟩
    · have h := if_f h c
      refine am_iload_n X dX6_ways_16 rfl rfl ?_
      refine am_bipush (v := (20 : Int32)) X dX6_ways_17 (by decide) ?_
      refine am_icmp_le (tgt := 26) X dX6_ways_19 (by decide) (fun c => ?_) (fun c => ?_)
      · have h := if_t h c
        refine am_aload_n X dX6_ways_26 rfl rfl ?_
        refine am_getf (v := .ref 8) X dX6_ways_27 fl_X6_42 rfl rfl (by decide) ?_
        refine am_aload_n X dX6_ways_30 rfl rfl ?_
        refine am_getf (v := .ref 1) X dX6_ways_31 fl_X6_12 rfl rfl (by decide) ?_
        obtain ⟨σ34, hc, h⟩ := bd_some h
        refine am_callv_v1 X dX6_ways_34 cw_X6_165 (ct_X3_load hG N _ _ hc) (Nat.le_of_ble_eq_true rfl) rfl rfl rfl rfl (Nat.le_of_ble_eq_true rfl) ?_
        refine am_aload_n X dX6_ways_37 rfl rfl ?_
        refine am_getf (v := .ref 8) X dX6_ways_38 fl_X6_42 rfl rfl (by decide) ?_
        refine am_iload_n X dX6_ways_41 rfl rfl ?_
        refine am_iload_n X dX6_ways_42 rfl rfl ?_
        refine am_iload_n X dX6_ways_43 rfl rfl ?_
        obtain ⟨v44, σ44, hc, h⟩ := bd2_some h
        refine am_callv_l3 X dX6_ways_44 cw_X6_185 (ct_X3_walks hG N _ _ _ _ _ hc) (Nat.le_of_ble_eq_true rfl) rfl rfl rfl rfl (Nat.le_of_ble_eq_true rfl) ?_
        obtain rfl := Option.some.inj h
        exact am_lret X h0 dX6_ways_47 rfl ⟨rfl, rfl⟩
      · have h := if_f h c
        refine am_ldc2 (v := (-9223372036854775808 : Int64)) X dX6_ways_22 (wm_r32 _ (List.mem_of_getElem? (i := 20) rfl)) ?_
        obtain rfl := Option.some.inj h
        exact am_lret X h0 dX6_ways_25 rfl ⟨rfl, rfl⟩
set_option maxRecDepth 100000 in
set_option maxHeartbeats 4000000 in
theorem t_X4_off_4b {G : Cx} (hG : am_G G) (N : Nat) (k4 : Int32 → Int32 → Sg → Option (Int32 × Sg)) (hk4 : ∀ (x1 : Int32) (x2 : Int32) (σ : Sg) (r : Int32 × Sg), k4 x1 x2 σ = some r → am_Wp G mX4_off 0 (am_qi r.1 r.2) 4 [some (.ref 1), some (.int x1), some (.int x2)] [] σ) (x1 : Int32) (x2 : Int32) (σ : Sg) (r : Int32 × Sg) (h : b_X4_off_4b N k4 x1 x2 σ = some r) : am_Wp G mX4_off 0 (am_qi r.1 r.2) 4 [some (.ref 1), some (.int x1), some (.int x2)] [] σ := by
  intro K h0 X
  unfold b_X4_off_4b at h
  refine am_iload_n X dX4_off_4 rfl rfl ?_
  refine am_aload_n X dX4_off_5 rfl rfl ?_
  refine am_getf (v := .int (rg σ 1 11)) X dX4_off_6 fl_X4_66 rfl rfl (by decide) ?_
  refine am_icmp_ge (tgt := 34) X dX4_off_9 (by decide) (fun c => ?_) (fun c => ?_)
  · have h := if_t h c
    refine am_iload_n X dX4_off_34 rfl rfl ?_
    obtain rfl := Option.some.inj h
    exact am_iret X h0 dX4_off_35 rfl ⟨rfl, rfl⟩
  · have h := if_f h c
    refine am_iload_n X dX4_off_12 rfl rfl ?_
    refine am_aload_n X dX4_off_13 rfl rfl ?_
    refine am_getf (v := .ref 16) X dX4_off_14 fl_X4_37 rfl rfl (by decide) ?_
    refine am_iload_n X dX4_off_17 rfl rfl ?_
    obtain ⟨g, h⟩ := gd_some h
    refine am_iald X dX4_off_18 rfl g ?_
    refine am_aload_n X dX4_off_19 rfl rfl ?_
    refine am_getf (v := .ref 17) X dX4_off_20 fl_X4_40 rfl rfl (by decide) ?_
    refine am_iload_n X dX4_off_23 rfl rfl ?_
    obtain ⟨g, h⟩ := gd_some h
    refine am_iald X dX4_off_24 rfl g ?_
    refine am_isub X dX4_off_25 ?_
    refine am_iadd X dX4_off_26 ?_
    refine am_topi h (fun x1_27 h => ?_)
    refine am_istore_n (ls' := [some (.ref 1), some (.int x1_27), some (.int x2)]) X dX4_off_27 rfl (by decide)  rfl rfl ?_
    refine am_iinc (ls' := fun x2_28 => [some (.ref 1), some (.int x1_27), some (.int x2_28)]) X dX4_off_28 rfl h (by decide) (by decide) rfl (fun _ => rfl) (fun x2_28 h => ?_)
    refine am_goto (tgt := 4) X dX4_off_31 (by decide) ?_
    exact am_jump (hk4 _ _ _ _ h K h0 X) rfl ⟨rfl, rfl, rfl, trivial⟩
set_option maxRecDepth 100000 in
set_option maxHeartbeats 4000000 in
theorem t_X4_off_4 {G : Cx} (hG : am_G G) (N : Nat) : ∀ (n : Nat) (x1 : Int32) (x2 : Int32) (σ : Sg) (r : Int32 × Sg), b_X4_off_4 N n x1 x2 σ = some r → am_Wp G mX4_off 0 (am_qi r.1 r.2) 4 [some (.ref 1), some (.int x1), some (.int x2)] [] σ := by
  intro n
  induction n with
  | zero => intro x1 x2 σ r h; cases h
  | succ n ih => intro x1 x2 σ r h; exact t_X4_off_4b hG N (b_X4_off_4 N n) ih x1 x2 σ r h
set_option maxRecDepth 100000 in
set_option maxHeartbeats 4000000 in
theorem ct_X4_off {G : Cx} (hG : am_G G) (N : Nat) (σ : Sg) (r : Int32 × Sg) (h : f_X4_off N σ = some r) : am_Ct G 1 yX4_off mX4_off [.ref 1] σ (am_qi r.1 r.2) := by
  refine am_enter hG rfl rfl (Nat.le_of_ble_eq_true rfl) ?_
  intro K h0 X
  unfold f_X4_off at h
  refine am_jump (pc' := 0) (ls' := [some (.ref 1), none, none]) ?_ rfl ⟨rfl, trivial⟩
  refine am_iconst (v := (0 : Int32)) X dX4_off_0 (by decide) ?_
  refine am_istore_n (ls' := [some (.ref 1), some (.int (0 : Int32)), none]) X dX4_off_1 rfl (by decide)  rfl rfl ?_
  refine am_iconst (v := (0 : Int32)) X dX4_off_2 (by decide) ?_
  refine am_istore_n (ls' := [some (.ref 1), some (.int (0 : Int32)), some (.int (0 : Int32))]) X dX4_off_3 rfl (by decide)  rfl rfl ?_
  exact am_jump (t_X4_off_4 hG N N _ _ _ _ h K h0 X) rfl ⟨rfl, rfl, rfl, trivial⟩
set_option maxRecDepth 100000 in
set_option maxHeartbeats 4000000 in
theorem t_X4_wrongOnes_46 {G : Cx} (hG : am_G G) (N : Nat) (k5 : Int32 → Int32 → Int32 → Sg → Option (Int32 × Sg)) (hk5 : ∀ (x2 : Int32) (x3 : Int32) (x4 : Int32) (σ : Sg) (r : Int32 × Sg), k5 x2 x3 x4 σ = some r → am_Wp G mX4_wrongOnes 0 (am_qi r.1 r.2) 5 [some (.ref 1), some (.ref 16), some (.int x2), some (.int x3), some (.int x4), none] [] σ) (x2 : Int32) (x3 : Int32) (x4 : Int32) (σ : Sg) (r : Int32 × Sg) (h : b_X4_wrongOnes_46 N k5 x2 x3 x4 σ = some r) : am_Wp G mX4_wrongOnes 0 (am_qi r.1 r.2) 46 [some (.ref 1), some (.ref 16), some (.int x2), some (.int x3), some (.int x4), none] [] σ := by
  intro K h0 X
  unfold b_X4_wrongOnes_46 at h
  refine am_iinc (ls' := fun x4_46 => [some (.ref 1), some (.ref 16), some (.int x2), some (.int x3), some (.int x4_46), none]) X dX4_wrongOnes_46 rfl h (by decide) (by decide) rfl (fun _ => rfl) (fun x4_46 h => ?_)
  refine am_goto (tgt := 5) X dX4_wrongOnes_49 (by decide) ?_
  exact am_jump (hk5 _ _ _ _ _ h K h0 X) rfl ⟨rfl, rfl, rfl, rfl, rfl, trivial⟩
set_option maxRecDepth 100000 in
set_option maxHeartbeats 4000000 in
theorem t_X4_wrongOnes_5b {G : Cx} (hG : am_G G) (N : Nat) (k5 : Int32 → Int32 → Int32 → Sg → Option (Int32 × Sg)) (hk5 : ∀ (x2 : Int32) (x3 : Int32) (x4 : Int32) (σ : Sg) (r : Int32 × Sg), k5 x2 x3 x4 σ = some r → am_Wp G mX4_wrongOnes 0 (am_qi r.1 r.2) 5 [some (.ref 1), some (.ref 16), some (.int x2), some (.int x3), some (.int x4), none] [] σ) (x2 : Int32) (x3 : Int32) (x4 : Int32) (σ : Sg) (r : Int32 × Sg) (h : b_X4_wrongOnes_5b N k5 x2 x3 x4 σ = some r) : am_Wp G mX4_wrongOnes 0 (am_qi r.1 r.2) 5 [some (.ref 1), some (.ref 16), some (.int x2), some (.int x3), some (.int x4), none] [] σ := by
  intro K h0 X
  unfold b_X4_wrongOnes_5b at h
  refine am_iload X dX4_wrongOnes_5 rfl ?_
  refine am_aload_n X dX4_wrongOnes_7 rfl rfl ?_
  refine am_getf (v := .int (rg σ 1 11)) X dX4_wrongOnes_8 fl_X4_66 rfl rfl (by decide) ?_
  refine am_icmp_ge (tgt := 52) X dX4_wrongOnes_11 (by decide) (fun c => ?_) (fun c => ?_)
  · have h := if_t h c
    refine am_iload_n X dX4_wrongOnes_52 rfl rfl ?_
    obtain rfl := Option.some.inj h
    exact am_iret X h0 dX4_wrongOnes_53 rfl ⟨rfl, rfl⟩
  · have h := if_f h c
    refine am_iload_n X dX4_wrongOnes_14 rfl rfl ?_
    refine am_if_eq (tgt := 52) X dX4_wrongOnes_15 (by decide) (fun c => ?_) (fun c => ?_)
    · have h := if_t h c
      refine am_iload_n X dX4_wrongOnes_52 rfl rfl ?_
      obtain rfl := Option.some.inj h
      exact am_iret X h0 dX4_wrongOnes_53 rfl ⟨rfl, rfl⟩
    · have h := if_f h c
      refine am_aload_n X dX4_wrongOnes_18 rfl rfl ?_
      refine am_iload X dX4_wrongOnes_19 rfl ?_
      obtain ⟨g, h⟩ := gd_some h
      refine am_iald X dX4_wrongOnes_21 rfl g ?_
      refine am_iload_n X dX4_wrongOnes_22 rfl rfl ?_
      refine am_iadd X dX4_wrongOnes_23 ?_
      refine am_topi h (fun x5_24 h => ?_)
      refine am_istore (ls' := [some (.ref 1), some (.ref 16), some (.int x2), some (.int x3), some (.int x4), some (.int x5_24)]) X dX4_wrongOnes_24 (by decide)  rfl rfl ?_
      refine am_iload X dX4_wrongOnes_26 rfl ?_
      refine am_if_lt (tgt := 46) X dX4_wrongOnes_28 (by decide) (fun c => ?_) (fun c => ?_)
      · have h := if_t h c
        exact am_jump (t_X4_wrongOnes_46 hG N k5 hk5 _ _ _ _ _ h K h0 X) rfl ⟨rfl, rfl, rfl, rfl, rfl, trivial⟩
      · have h := if_f h c
        refine am_iload X dX4_wrongOnes_31 rfl ?_
        refine am_sipush (v := (999 : Int32)) X dX4_wrongOnes_33 (by decide) ?_
        refine am_icmp_gt (tgt := 46) X dX4_wrongOnes_36 (by decide) (fun c => ?_) (fun c => ?_)
        · have h := if_t h c
          exact am_jump (t_X4_wrongOnes_46 hG N k5 hk5 _ _ _ _ _ h K h0 X) rfl ⟨rfl, rfl, rfl, rfl, rfl, trivial⟩
        · have h := if_f h c
          refine am_iload_n X dX4_wrongOnes_39 rfl rfl ?_
          refine am_iconst (v := (1 : Int32)) X dX4_wrongOnes_40 (by decide) ?_
          refine am_iload X dX4_wrongOnes_41 rfl ?_
          refine am_ishl X dX4_wrongOnes_43 ?_
          refine am_ior X dX4_wrongOnes_44 ?_
          refine am_topi h (fun x3_45 h => ?_)
          refine am_istore_n (ls' := [some (.ref 1), some (.ref 16), some (.int x2), some (.int x3_45), some (.int x4), some (.int x5_24)]) X dX4_wrongOnes_45 rfl (by decide)  rfl rfl ?_
          exact am_jump (t_X4_wrongOnes_46 hG N k5 hk5 _ _ _ _ _ h K h0 X) rfl ⟨rfl, rfl, rfl, rfl, rfl, trivial⟩
set_option maxRecDepth 100000 in
set_option maxHeartbeats 4000000 in
theorem t_X4_wrongOnes_5 {G : Cx} (hG : am_G G) (N : Nat) : ∀ (n : Nat) (x2 : Int32) (x3 : Int32) (x4 : Int32) (σ : Sg) (r : Int32 × Sg), b_X4_wrongOnes_5 N n x2 x3 x4 σ = some r → am_Wp G mX4_wrongOnes 0 (am_qi r.1 r.2) 5 [some (.ref 1), some (.ref 16), some (.int x2), some (.int x3), some (.int x4), none] [] σ := by
  intro n
  induction n with
  | zero => intro x2 x3 x4 σ r h; cases h
  | succ n ih => intro x2 x3 x4 σ r h; exact t_X4_wrongOnes_5b hG N (b_X4_wrongOnes_5 N n) ih x2 x3 x4 σ r h
set_option maxRecDepth 100000 in
set_option maxHeartbeats 4000000 in
theorem ct_X4_wrongOnes {G : Cx} (hG : am_G G) (N : Nat) (x2 : Int32) (σ : Sg) (r : Int32 × Sg) (h : f_X4_wrongOnes N x2 σ = some r) : am_Ct G 1 yX4_wrongOnes mX4_wrongOnes [.ref 1, .ref 16, .int x2] σ (am_qi r.1 r.2) := by
  refine am_enter hG rfl rfl (Nat.le_of_ble_eq_true rfl) ?_
  intro K h0 X
  unfold f_X4_wrongOnes at h
  refine am_jump (pc' := 0) (ls' := [some (.ref 1), some (.ref 16), some (.int x2), none, none, none]) ?_ rfl ⟨rfl, rfl, rfl, trivial⟩
  refine am_iconst (v := (0 : Int32)) X dX4_wrongOnes_0 (by decide) ?_
  refine am_istore_n (ls' := [some (.ref 1), some (.ref 16), some (.int x2), some (.int (0 : Int32)), none, none]) X dX4_wrongOnes_1 rfl (by decide)  rfl rfl ?_
  refine am_iconst (v := (0 : Int32)) X dX4_wrongOnes_2 (by decide) ?_
  refine am_istore (ls' := [some (.ref 1), some (.ref 16), some (.int x2), some (.int (0 : Int32)), some (.int (0 : Int32)), none]) X dX4_wrongOnes_3 (by decide)  rfl rfl ?_
  exact am_jump (t_X4_wrongOnes_5 hG N N _ _ _ _ _ h K h0 X) rfl ⟨rfl, rfl, rfl, rfl, rfl, trivial⟩
set_option maxRecDepth 100000 in
set_option maxHeartbeats 4000000 in
theorem t_X4_wrongOnes_v1_46 {G : Cx} (hG : am_G G) (N : Nat) (k5 : Int32 → Int32 → Int32 → Sg → Option (Int32 × Sg)) (hk5 : ∀ (x2 : Int32) (x3 : Int32) (x4 : Int32) (σ : Sg) (r : Int32 × Sg), k5 x2 x3 x4 σ = some r → am_Wp G mX4_wrongOnes 0 (am_qi r.1 r.2) 5 [some (.ref 1), some (.ref 17), some (.int x2), some (.int x3), some (.int x4), none] [] σ) (x2 : Int32) (x3 : Int32) (x4 : Int32) (σ : Sg) (r : Int32 × Sg) (h : b_X4_wrongOnes_v1_46 N k5 x2 x3 x4 σ = some r) : am_Wp G mX4_wrongOnes 0 (am_qi r.1 r.2) 46 [some (.ref 1), some (.ref 17), some (.int x2), some (.int x3), some (.int x4), none] [] σ := by
  intro K h0 X
  unfold b_X4_wrongOnes_v1_46 at h
  refine am_iinc (ls' := fun x4_46 => [some (.ref 1), some (.ref 17), some (.int x2), some (.int x3), some (.int x4_46), none]) X dX4_wrongOnes_46 rfl h (by decide) (by decide) rfl (fun _ => rfl) (fun x4_46 h => ?_)
  refine am_goto (tgt := 5) X dX4_wrongOnes_49 (by decide) ?_
  exact am_jump (hk5 _ _ _ _ _ h K h0 X) rfl ⟨rfl, rfl, rfl, rfl, rfl, trivial⟩
set_option maxRecDepth 100000 in
set_option maxHeartbeats 4000000 in
theorem t_X4_wrongOnes_v1_5b {G : Cx} (hG : am_G G) (N : Nat) (k5 : Int32 → Int32 → Int32 → Sg → Option (Int32 × Sg)) (hk5 : ∀ (x2 : Int32) (x3 : Int32) (x4 : Int32) (σ : Sg) (r : Int32 × Sg), k5 x2 x3 x4 σ = some r → am_Wp G mX4_wrongOnes 0 (am_qi r.1 r.2) 5 [some (.ref 1), some (.ref 17), some (.int x2), some (.int x3), some (.int x4), none] [] σ) (x2 : Int32) (x3 : Int32) (x4 : Int32) (σ : Sg) (r : Int32 × Sg) (h : b_X4_wrongOnes_v1_5b N k5 x2 x3 x4 σ = some r) : am_Wp G mX4_wrongOnes 0 (am_qi r.1 r.2) 5 [some (.ref 1), some (.ref 17), some (.int x2), some (.int x3), some (.int x4), none] [] σ := by
  intro K h0 X
  unfold b_X4_wrongOnes_v1_5b at h
  refine am_iload X dX4_wrongOnes_5 rfl ?_
  refine am_aload_n X dX4_wrongOnes_7 rfl rfl ?_
  refine am_getf (v := .int (rg σ 1 11)) X dX4_wrongOnes_8 fl_X4_66 rfl rfl (by decide) ?_
  refine am_icmp_ge (tgt := 52) X dX4_wrongOnes_11 (by decide) (fun c => ?_) (fun c => ?_)
  · have h := if_t h c
    refine am_iload_n X dX4_wrongOnes_52 rfl rfl ?_
    obtain rfl := Option.some.inj h
    exact am_iret X h0 dX4_wrongOnes_53 rfl ⟨rfl, rfl⟩
  · have h := if_f h c
    refine am_iload_n X dX4_wrongOnes_14 rfl rfl ?_
    refine am_if_eq (tgt := 52) X dX4_wrongOnes_15 (by decide) (fun c => ?_) (fun c => ?_)
    · have h := if_t h c
      refine am_iload_n X dX4_wrongOnes_52 rfl rfl ?_
      obtain rfl := Option.some.inj h
      exact am_iret X h0 dX4_wrongOnes_53 rfl ⟨rfl, rfl⟩
    · have h := if_f h c
      refine am_aload_n X dX4_wrongOnes_18 rfl rfl ?_
      refine am_iload X dX4_wrongOnes_19 rfl ?_
      obtain ⟨g, h⟩ := gd_some h
      refine am_iald X dX4_wrongOnes_21 rfl g ?_
      refine am_iload_n X dX4_wrongOnes_22 rfl rfl ?_
      refine am_iadd X dX4_wrongOnes_23 ?_
      refine am_topi h (fun x5_24 h => ?_)
      refine am_istore (ls' := [some (.ref 1), some (.ref 17), some (.int x2), some (.int x3), some (.int x4), some (.int x5_24)]) X dX4_wrongOnes_24 (by decide)  rfl rfl ?_
      refine am_iload X dX4_wrongOnes_26 rfl ?_
      refine am_if_lt (tgt := 46) X dX4_wrongOnes_28 (by decide) (fun c => ?_) (fun c => ?_)
      · have h := if_t h c
        exact am_jump (t_X4_wrongOnes_v1_46 hG N k5 hk5 _ _ _ _ _ h K h0 X) rfl ⟨rfl, rfl, rfl, rfl, rfl, trivial⟩
      · have h := if_f h c
        refine am_iload X dX4_wrongOnes_31 rfl ?_
        refine am_sipush (v := (999 : Int32)) X dX4_wrongOnes_33 (by decide) ?_
        refine am_icmp_gt (tgt := 46) X dX4_wrongOnes_36 (by decide) (fun c => ?_) (fun c => ?_)
        · have h := if_t h c
          exact am_jump (t_X4_wrongOnes_v1_46 hG N k5 hk5 _ _ _ _ _ h K h0 X) rfl ⟨rfl, rfl, rfl, rfl, rfl, trivial⟩
        · have h := if_f h c
          refine am_iload_n X dX4_wrongOnes_39 rfl rfl ?_
          refine am_iconst (v := (1 : Int32)) X dX4_wrongOnes_40 (by decide) ?_
          refine am_iload X dX4_wrongOnes_41 rfl ?_
          refine am_ishl X dX4_wrongOnes_43 ?_
          refine am_ior X dX4_wrongOnes_44 ?_
          refine am_topi h (fun x3_45 h => ?_)
          refine am_istore_n (ls' := [some (.ref 1), some (.ref 17), some (.int x2), some (.int x3_45), some (.int x4), some (.int x5_24)]) X dX4_wrongOnes_45 rfl (by decide)  rfl rfl ?_
          exact am_jump (t_X4_wrongOnes_v1_46 hG N k5 hk5 _ _ _ _ _ h K h0 X) rfl ⟨rfl, rfl, rfl, rfl, rfl, trivial⟩
set_option maxRecDepth 100000 in
set_option maxHeartbeats 4000000 in
theorem t_X4_wrongOnes_v1_5 {G : Cx} (hG : am_G G) (N : Nat) : ∀ (n : Nat) (x2 : Int32) (x3 : Int32) (x4 : Int32) (σ : Sg) (r : Int32 × Sg), b_X4_wrongOnes_v1_5 N n x2 x3 x4 σ = some r → am_Wp G mX4_wrongOnes 0 (am_qi r.1 r.2) 5 [some (.ref 1), some (.ref 17), some (.int x2), some (.int x3), some (.int x4), none] [] σ := by
  intro n
  induction n with
  | zero => intro x2 x3 x4 σ r h; cases h
  | succ n ih => intro x2 x3 x4 σ r h; exact t_X4_wrongOnes_v1_5b hG N (b_X4_wrongOnes_v1_5 N n) ih x2 x3 x4 σ r h
set_option maxRecDepth 100000 in
set_option maxHeartbeats 4000000 in
theorem ct_X4_wrongOnes_v1 {G : Cx} (hG : am_G G) (N : Nat) (x2 : Int32) (σ : Sg) (r : Int32 × Sg) (h : f_X4_wrongOnes_v1 N x2 σ = some r) : am_Ct G 1 yX4_wrongOnes mX4_wrongOnes [.ref 1, .ref 17, .int x2] σ (am_qi r.1 r.2) := by
  refine am_enter hG rfl rfl (Nat.le_of_ble_eq_true rfl) ?_
  intro K h0 X
  unfold f_X4_wrongOnes_v1 at h
  refine am_jump (pc' := 0) (ls' := [some (.ref 1), some (.ref 17), some (.int x2), none, none, none]) ?_ rfl ⟨rfl, rfl, rfl, trivial⟩
  refine am_iconst (v := (0 : Int32)) X dX4_wrongOnes_0 (by decide) ?_
  refine am_istore_n (ls' := [some (.ref 1), some (.ref 17), some (.int x2), some (.int (0 : Int32)), none, none]) X dX4_wrongOnes_1 rfl (by decide)  rfl rfl ?_
  refine am_iconst (v := (0 : Int32)) X dX4_wrongOnes_2 (by decide) ?_
  refine am_istore (ls' := [some (.ref 1), some (.ref 17), some (.int x2), some (.int (0 : Int32)), some (.int (0 : Int32)), none]) X dX4_wrongOnes_3 (by decide)  rfl rfl ?_
  exact am_jump (t_X4_wrongOnes_v1_5 hG N N _ _ _ _ _ h K h0 X) rfl ⟨rfl, rfl, rfl, rfl, rfl, trivial⟩
set_option maxRecDepth 100000 in
set_option maxHeartbeats 4000000 in
theorem ct_X6_wrong {G : Cx} (hG : am_G G) (N : Nat) (x1 : Int32) (σ : Sg) (r : Int32 × Sg) (h : f_X6_wrong N x1 σ = some r) : am_Ct G 2 yX6_wrong mX6_wrong [.ref 0, .int x1] σ (am_qi r.1 r.2) := by
  refine am_enter hG rfl rfl (Nat.le_of_ble_eq_true rfl) ?_
  intro K h0 X
  unfold f_X6_wrong at h
  refine am_jump (pc' := 0) (ls' := [some (.ref 0), some (.int x1)]) ?_ rfl ⟨rfl, rfl, trivial⟩
  refine am_iload_n X dX6_wrong_0 rfl rfl ?_
  by_cases c0 : x1 = (0 : Int32)
  · have h := if_t h c0
    refine am_tabIn (tgt := 28) X dX6_wrong_1 c0 (by decide) (by decide) rfl (by decide) ?_
    refine am_aload_n X dX6_wrong_28 rfl rfl ?_
    refine am_getf (v := .ref 1) X dX6_wrong_29 fl_X6_12 rfl rfl (by decide) ?_
    obtain ⟨v32, σ32, hc, h⟩ := bd2_some h
    refine am_callv_i0 X dX6_wrong_32 cw_X6_202 (ct_X4_off hG N _ _ hc) (Nat.le_of_ble_eq_true rfl) rfl rfl rfl rfl (Nat.le_of_ble_eq_true rfl) ?_
    obtain rfl := Option.some.inj h
    exact am_iret X h0 dX6_wrong_35 rfl ⟨rfl, rfl⟩
  have h := if_f h c0
  by_cases c1 : x1 = (1 : Int32)
  · have h := if_t h c1
    refine am_tabIn (tgt := 36) X dX6_wrong_1 c1 (by decide) (by decide) rfl (by decide) ?_
    refine am_aload_n X dX6_wrong_36 rfl rfl ?_
    refine am_getf (v := .ref 1) X dX6_wrong_37 fl_X6_12 rfl rfl (by decide) ?_
    refine am_aload_n X dX6_wrong_40 rfl rfl ?_
    refine am_getf (v := .ref 1) X dX6_wrong_41 fl_X6_12 rfl rfl (by decide) ?_
    refine am_getf (v := .ref 16) X dX6_wrong_44 fl_X6_196 rfl rfl (by decide) ?_
    refine am_aload_n X dX6_wrong_47 rfl rfl ?_
    refine am_getf (v := .ref 1) X dX6_wrong_48 fl_X6_12 rfl rfl (by decide) ?_
    obtain ⟨v51, σ51, hc, h⟩ := bd2_some h
    refine am_callv_i0 X dX6_wrong_51 cw_X6_202 (ct_X4_off hG N _ _ hc) (Nat.le_of_ble_eq_true rfl) rfl rfl rfl rfl (Nat.le_of_ble_eq_true rfl) ?_
    refine am_ineg X dX6_wrong_54 ?_
    obtain ⟨v55, σ55, hc, h⟩ := bd2_some h
    refine am_callv_i2 X dX6_wrong_55 cw_X6_205 (ct_X4_wrongOnes hG N _ _ _ hc) (Nat.le_of_ble_eq_true rfl) rfl rfl rfl rfl (Nat.le_of_ble_eq_true rfl) ?_
    obtain rfl := Option.some.inj h
    exact am_iret X h0 dX6_wrong_58 rfl ⟨rfl, rfl⟩
  have h := if_f h c1
  by_cases c2 : x1 = (2 : Int32)
  · have h := if_t h c2
    refine am_tabIn (tgt := 59) X dX6_wrong_1 c2 (by decide) (by decide) rfl (by decide) ?_
    refine am_aload_n X dX6_wrong_59 rfl rfl ?_
    refine am_getf (v := .ref 1) X dX6_wrong_60 fl_X6_12 rfl rfl (by decide) ?_
    refine am_aload_n X dX6_wrong_63 rfl rfl ?_
    refine am_getf (v := .ref 1) X dX6_wrong_64 fl_X6_12 rfl rfl (by decide) ?_
    refine am_getf (v := .ref 17) X dX6_wrong_67 fl_X6_199 rfl rfl (by decide) ?_
    refine am_aload_n X dX6_wrong_70 rfl rfl ?_
    refine am_getf (v := .ref 1) X dX6_wrong_71 fl_X6_12 rfl rfl (by decide) ?_
    obtain ⟨v74, σ74, hc, h⟩ := bd2_some h
    refine am_callv_i0 X dX6_wrong_74 cw_X6_202 (ct_X4_off hG N _ _ hc) (Nat.le_of_ble_eq_true rfl) rfl rfl rfl rfl (Nat.le_of_ble_eq_true rfl) ?_
    obtain ⟨v77, σ77, hc, h⟩ := bd2_some h
    refine am_callv_i2 X dX6_wrong_77 cw_X6_205 (ct_X4_wrongOnes_v1 hG N _ _ _ hc) (Nat.le_of_ble_eq_true rfl) rfl rfl rfl rfl (Nat.le_of_ble_eq_true rfl) ?_
    obtain rfl := Option.some.inj h
    exact am_iret X h0 dX6_wrong_80 rfl ⟨rfl, rfl⟩
  have h := if_f h c2
  refine am_tabOut (tgt := 81) (vs := [(0 : Int32), (1 : Int32), (2 : Int32)]) X dX6_wrong_1 (List.forall_mem_cons.mpr ⟨c0, (List.forall_mem_cons.mpr ⟨c1, (List.forall_mem_cons.mpr ⟨c2, (fun _ h => absurd h List.not_mem_nil)⟩)⟩)⟩) (by decide) (by decide) ?_
  refine am_ldc (v := (-1000001 : Int32)) X dX6_wrong_81 (wm_r16 _ (List.mem_of_getElem? (i := 22) rfl)) ?_
  obtain rfl := Option.some.inj h
  exact am_iret X h0 dX6_wrong_83 rfl ⟨rfl, rfl⟩
set_option maxRecDepth 100000 in
set_option maxHeartbeats 4000000 in
theorem t_X7_in_14 {G : Cx} (hG : am_G G) (N : Nat) (σ : Sg) (r : Int32 × Sg) (h : b_X7_in_14 N σ = some r) : am_Wp G mX7_in 0 (am_qi r.1 r.2) 14 [none, none, none] [] σ := by
  intro K h0 X
  unfold b_X7_in_14 at h
  refine am_iconst (v := (0 : Int32)) X dX7_in_14 (by decide) ?_
  obtain rfl := Option.some.inj h
  exact am_zret X h0 dX7_in_15 rfl (by decide) ⟨rfl, rfl⟩
set_option maxRecDepth 100000 in
set_option maxHeartbeats 4000000 in
theorem ct_X7_in {G : Cx} (hG : am_G G) (N : Nat) (x0 : Int32) (x1 : Int32) (x2 : Int32) (σ : Sg) (r : Int32 × Sg) (h : f_X7_in N x0 x1 x2 σ = some r) : am_Ct G 1 yX7_in mX7_in [.int x0, .int x1, .int x2] σ (am_qi r.1 r.2) := by
  refine am_enter hG rfl rfl (Nat.le_of_ble_eq_true rfl) ?_
  intro K h0 X
  unfold f_X7_in at h
  refine am_jump (pc' := 0) (ls' := [some (.int x0), some (.int x1), some (.int x2)]) ?_ rfl ⟨rfl, rfl, rfl, trivial⟩
  refine am_iload_n X dX7_in_0 rfl rfl ?_
  refine am_iload_n X dX7_in_1 rfl rfl ?_
  refine am_icmp_lt (tgt := 14) X dX7_in_2 (by decide) (fun c => ?_) (fun c => ?_)
  · have h := if_t h c
    exact am_jump (t_X7_in_14 hG N _ _ h K h0 X) rfl trivial
  · have h := if_f h c
    refine am_iload_n X dX7_in_5 rfl rfl ?_
    refine am_iload_n X dX7_in_6 rfl rfl ?_
    refine am_icmp_gt (tgt := 14) X dX7_in_7 (by decide) (fun c => ?_) (fun c => ?_)
    · have h := if_t h c
      exact am_jump (t_X7_in_14 hG N _ _ h K h0 X) rfl trivial
    · have h := if_f h c
      refine am_iconst (v := (1 : Int32)) X dX7_in_10 (by decide) ?_
      refine am_goto (tgt := 15) X dX7_in_11 (by decide) ?_
      obtain rfl := Option.some.inj h
      exact am_zret X h0 dX7_in_15 rfl (by decide) ⟨rfl, rfl⟩
set_option maxRecDepth 100000 in
set_option maxHeartbeats 4000000 in
theorem ct_X7_isStreet {G : Cx} (hG : am_G G) (N : Nat) (x1 : Int32) (σ : Sg) (r : Int32 × Sg) (h : f_X7_isStreet N x1 σ = some r) : am_Ct G 2 yX7_isStreet mX7_isStreet [.ref 60, .int x1] σ (am_qi r.1 r.2) := by
  refine am_enter hG rfl rfl (Nat.le_of_ble_eq_true rfl) ?_
  intro K h0 X
  unfold f_X7_isStreet at h
  refine am_jump (pc' := 0) (ls' := [some (.ref 60), some (.int x1)]) ?_ rfl ⟨rfl, rfl, trivial⟩
  refine am_iload_n X dX7_isStreet_0 rfl rfl ?_
  refine am_iconst (v := (0 : Int32)) X dX7_isStreet_1 (by decide) ?_
  refine am_aload_n X dX7_isStreet_2 rfl rfl ?_
  refine am_getf (v := .ref 61) X dX7_isStreet_3 fl_X7_9 rfl rfl (by decide) ?_
  refine am_iconst (v := (0 : Int32)) X dX7_isStreet_6 (by decide) ?_
  obtain ⟨g, h⟩ := gd_some h
  refine am_iald X dX7_isStreet_7 rfl g ?_
  refine am_iconst (v := (1 : Int32)) X dX7_isStreet_8 (by decide) ?_
  refine am_isub X dX7_isStreet_9 ?_
  obtain ⟨v10, σ10, hc, h⟩ := bd2_some h
  refine am_calls_i3 X dX7_isStreet_10 cw_X7_84 (ct_X7_in hG N _ _ _ _ _ hc) (Nat.le_of_ble_eq_true rfl) rfl (Nat.le_of_ble_eq_true rfl) ?_
  obtain ⟨g, h⟩ := gd_some h
  obtain rfl := Option.some.inj h
  exact am_zret X h0 dX7_isStreet_13 rfl (nbz_nar (nbz_eq g)) ⟨rfl, rfl⟩
set_option maxRecDepth 100000 in
set_option maxHeartbeats 4000000 in
theorem t_X7_isUnder_25 {G : Cx} (hG : am_G G) (N : Nat) (σ : Sg) (r : Int32 × Sg) (h : b_X7_isUnder_25 N σ = some r) : am_Wp G mX7_isUnder 0 (am_qi r.1 r.2) 25 [none, none] [] σ := by
  intro K h0 X
  unfold b_X7_isUnder_25 at h
  refine am_iconst (v := (1 : Int32)) X dX7_isUnder_25 (by decide) ?_
  refine am_goto (tgt := 30) X dX7_isUnder_26 (by decide) ?_
  obtain rfl := Option.some.inj h
  exact am_zret X h0 dX7_isUnder_30 rfl (by decide) ⟨rfl, rfl⟩
set_option maxRecDepth 100000 in
set_option maxHeartbeats 4000000 in
theorem t_X7_isUnder_29 {G : Cx} (hG : am_G G) (N : Nat) (σ : Sg) (r : Int32 × Sg) (h : b_X7_isUnder_29 N σ = some r) : am_Wp G mX7_isUnder 0 (am_qi r.1 r.2) 29 [none, none] [] σ := by
  intro K h0 X
  unfold b_X7_isUnder_29 at h
  refine am_iconst (v := (0 : Int32)) X dX7_isUnder_29 (by decide) ?_
  obtain rfl := Option.some.inj h
  exact am_zret X h0 dX7_isUnder_30 rfl (by decide) ⟨rfl, rfl⟩
set_option maxRecDepth 100000 in
set_option maxHeartbeats 4000000 in
theorem ct_X7_isUnder {G : Cx} (hG : am_G G) (N : Nat) (x0 : Int32) (x1 : Int32) (σ : Sg) (r : Int32 × Sg) (h : f_X7_isUnder N x0 x1 σ = some r) : am_Ct G 1 yX7_isUnder mX7_isUnder [.int x0, .int x1] σ (am_qi r.1 r.2) := by
  refine am_enter hG rfl rfl (Nat.le_of_ble_eq_true rfl) ?_
  intro K h0 X
  unfold f_X7_isUnder at h
  refine am_jump (pc' := 0) (ls' := [some (.int x0), some (.int x1)]) ?_ rfl ⟨rfl, rfl, trivial⟩
  refine am_iload_n X dX7_isUnder_0 rfl rfl ?_
  refine am_if_eq (tgt := 25) X dX7_isUnder_1 (by decide) (fun c => ?_) (fun c => ?_)
  · have h := if_t h c
    exact am_jump (t_X7_isUnder_25 hG N _ _ h K h0 X) rfl trivial
  · have h := if_f h c
    refine am_iload_n X dX7_isUnder_4 rfl rfl ?_
    refine am_iload_n X dX7_isUnder_5 rfl rfl ?_
    refine am_icmp_eq (tgt := 25) X dX7_isUnder_6 (by decide) (fun c => ?_) (fun c => ?_)
    · have h := if_t h c
      exact am_jump (t_X7_isUnder_25 hG N _ _ h K h0 X) rfl trivial
    · have h := if_f h c
      refine am_iload_n X dX7_isUnder_9 rfl rfl ?_
      refine am_if_le (tgt := 29) X dX7_isUnder_10 (by decide) (fun c => ?_) (fun c => ?_)
      · have h := if_t h c
        exact am_jump (t_X7_isUnder_29 hG N _ _ h K h0 X) rfl trivial
      · have h := if_f h c
        refine am_iload_n X dX7_isUnder_13 rfl rfl ?_
        refine am_iconst (v := (4 : Int32)) X dX7_isUnder_14 (by decide) ?_
        refine am_icmp_ge (tgt := 29) X dX7_isUnder_15 (by decide) (fun c => ?_) (fun c => ?_)
        · have h := if_t h c
          exact am_jump (t_X7_isUnder_29 hG N _ _ h K h0 X) rfl trivial
        · have h := if_f h c
          refine am_iload_n X dX7_isUnder_18 rfl rfl ?_
          refine am_iload_n X dX7_isUnder_19 rfl rfl ?_
          refine am_iconst (v := (3 : Int32)) X dX7_isUnder_20 (by decide) ?_
          refine am_iadd X dX7_isUnder_21 ?_
          refine am_icmp_ne (tgt := 29) X dX7_isUnder_22 (by decide) (fun c => ?_) (fun c => ?_)
          · have h := if_f h c
            exact am_jump (t_X7_isUnder_29 hG N _ _ h K h0 X) rfl trivial
          · have h := if_t h c
            exact am_jump (t_X7_isUnder_25 hG N _ _ h K h0 X) rfl trivial
set_option maxRecDepth 100000 in
set_option maxHeartbeats 4000000 in
theorem t_X7_ranBody_19 {G : Cx} (hG : am_G G) (N : Nat) (σ : Sg) (r : Sg) (h : b_X7_ranBody_19 N σ = some r) : am_Wp G mX7_ranBody 0 (am_qv r) 19 [some (.ref 60), none] [] σ := by
  intro K h0 X
  unfold b_X7_ranBody_19 at h
  refine am_aload_n X dX7_ranBody_19 rfl rfl ?_
  refine am_dup X dX7_ranBody_20 rfl ?_
  refine am_getf (v := .int (rg σ 60 34)) X dX7_ranBody_21 fl_X7_278 rfl rfl (by decide) ?_
  refine am_iconst (v := (1 : Int32)) X dX7_ranBody_24 (by decide) ?_
  refine am_iadd X dX7_ranBody_25 ?_
  refine am_putfi X dX7_ranBody_26 fp_X7_278 rfl rfl ?_
  refine am_tops h (fun σ26 h => ?_)
  obtain rfl := Option.some.inj h
  exact am_vret X h0 dX7_ranBody_29 rfl ⟨rfl, rfl⟩
set_option maxRecDepth 100000 in
set_option maxHeartbeats 4000000 in
theorem ct_X7_ranBody {G : Cx} (hG : am_G G) (N : Nat) (x1 : Int32) (σ : Sg) (r : Sg) (h : f_X7_ranBody N x1 σ = some r) : am_Ct G 1 yX7_ranBody mX7_ranBody [.ref 60, .int x1] σ (am_qv r) := by
  refine am_enter hG rfl rfl (Nat.le_of_ble_eq_true rfl) ?_
  intro K h0 X
  unfold f_X7_ranBody at h
  refine am_jump (pc' := 0) (ls' := [some (.ref 60), some (.int x1)]) ?_ rfl ⟨rfl, rfl, trivial⟩
  refine am_aload_n X dX7_ranBody_0 rfl rfl ?_
  refine am_getf (v := .int (rg σ 60 34)) X dX7_ranBody_1 fl_X7_278 rfl rfl (by decide) ?_
  refine am_bipush (v := (20 : Int32)) X dX7_ranBody_4 (by decide) ?_
  refine am_icmp_ge (tgt := 19) X dX7_ranBody_6 (by decide) (fun c => ?_) (fun c => ?_)
  · have h := if_t h c
    exact am_jump (t_X7_ranBody_19 hG N _ _ h K h0 X) rfl ⟨rfl, trivial⟩
  · have h := if_f h c
    refine am_aload_n X dX7_ranBody_9 rfl rfl ?_
    refine am_getf (v := .ref 82) X dX7_ranBody_10 fl_X7_77 rfl rfl (by decide) ?_
    refine am_aload_n X dX7_ranBody_13 rfl rfl ?_
    refine am_getf (v := .int (rg σ 60 34)) X dX7_ranBody_14 fl_X7_278 rfl rfl (by decide) ?_
    refine am_iload_n X dX7_ranBody_17 rfl rfl ?_
    obtain ⟨g, h⟩ := gd_some h
    refine am_iast X dX7_ranBody_18 rfl g ?_
    refine am_tops h (fun σ18 h => ?_)
    exact am_jump (t_X7_ranBody_19 hG N _ _ h K h0 X) rfl ⟨rfl, trivial⟩
set_option maxRecDepth 100000 in
set_option maxHeartbeats 4000000 in
theorem ct_X7_plainCounts {G : Cx} (hG : am_G G) (N : Nat) (x1 : Int32) (σ : Sg) (r : Int32 × Sg) (h : f_X7_plainCounts N x1 σ = some r) : am_Ct G 2 yX7_plainCounts mX7_plainCounts [.ref 60, .int x1] σ (am_qi r.1 r.2) := by
  refine am_enter hG rfl rfl (Nat.le_of_ble_eq_true rfl) ?_
  intro K h0 X
  unfold f_X7_plainCounts at h
  refine am_jump (pc' := 0) (ls' := [some (.ref 60), some (.int x1)]) ?_ rfl ⟨rfl, rfl, trivial⟩
  refine am_aload_n X dX7_plainCounts_0 rfl rfl ?_
  refine am_iconst (v := (1 : Int32)) X dX7_plainCounts_1 (by decide) ?_
  obtain ⟨σ2, hc, h⟩ := bd_some h
  refine am_callv_v1 X dX7_plainCounts_2 cw_X7_281 (ct_X7_ranBody hG N _ _ _ hc) (Nat.le_of_ble_eq_true rfl) rfl rfl rfl rfl (Nat.le_of_ble_eq_true rfl) ?_
  refine am_iload_n X dX7_plainCounts_5 rfl rfl ?_
  refine am_aload_n X dX7_plainCounts_6 rfl rfl ?_
  refine am_getf (v := .int (rg σ2 60 36)) X dX7_plainCounts_7 fl_X7_284 rfl rfl (by decide) ?_
  refine am_iadd X dX7_plainCounts_10 ?_
  obtain rfl := Option.some.inj h
  exact am_iret X h0 dX7_plainCounts_11 rfl ⟨rfl, rfl⟩
set_option maxRecDepth 100000 in
set_option maxHeartbeats 4000000 in
theorem ct_X7_countsActs {G : Cx} (hG : am_G G) (N : Nat) (x1 : Int32) (σ : Sg) (r : Int32 × Sg) (h : f_X7_countsActs N x1 σ = some r) : am_Ct G 3 yX7_countsActs mX7_countsActs [.ref 60, .int x1] σ (am_qi r.1 r.2) := by
  refine am_enter hG rfl rfl (Nat.le_of_ble_eq_true rfl) ?_
  intro K h0 X
  unfold f_X7_countsActs at h
  refine am_jump (pc' := 0) (ls' := [some (.ref 60), some (.int x1)]) ?_ rfl ⟨rfl, rfl, trivial⟩
  refine am_aload_n X dX7_countsActs_0 rfl rfl ?_
  refine am_getf (v := .int (rg σ 60 35)) X dX7_countsActs_1 fl_X7_287 rfl rfl (by decide) ?_
  refine am_iconst (v := (1 : Int32)) X dX7_countsActs_4 (by decide) ?_
  obtain ⟨v5, σ5, hc, h⟩ := bd2_some h
  refine am_calls_i2 X dX7_countsActs_5 cw_X7_290 (ct_X7_isUnder hG N _ _ _ _ hc) (Nat.le_of_ble_eq_true rfl) rfl (Nat.le_of_ble_eq_true rfl) ?_
  refine am_if_eq (tgt := 25) X dX7_countsActs_8 (by decide) (fun c => ?_) (fun c => ?_)
  · have h := if_t h c
    refine am_aload_n X dX7_countsActs_25 rfl rfl ?_
    refine am_getf (v := .int (rg σ5 60 35)) X dX7_countsActs_26 fl_X7_287 rfl rfl (by decide) ?_
    refine am_iconst (v := (5 : Int32)) X dX7_countsActs_29 (by decide) ?_
    refine am_icmp_ne (tgt := 50) X dX7_countsActs_30 (by decide) (fun c => ?_) (fun c => ?_)
    · have h := if_f h c
      refine am_aload_n X dX7_countsActs_50 rfl rfl ?_
      refine am_iload_n X dX7_countsActs_51 rfl rfl ?_
      obtain ⟨v52, σ52, hc, h⟩ := bd2_some h
      refine am_callv_i1 X dX7_countsActs_52 cw_X7_293 (ct_X7_plainCounts hG N _ _ _ hc) (Nat.le_of_ble_eq_true rfl) rfl rfl rfl rfl (Nat.le_of_ble_eq_true rfl) ?_
      obtain rfl := Option.some.inj h
      exact am_iret X h0 dX7_countsActs_55 rfl ⟨rfl, rfl⟩
    · have h := if_t h c
      refine am_aload_n X dX7_countsActs_33 rfl rfl ?_
      refine am_bipush (v := (51 : Int32)) X dX7_countsActs_34 (by decide) ?_
      obtain ⟨σ36, hc, h⟩ := bd_some h
      refine am_callv_v1 X dX7_countsActs_36 cw_X7_281 (ct_X7_ranBody hG N _ _ _ hc) (Nat.le_of_ble_eq_true rfl) rfl rfl rfl rfl (Nat.le_of_ble_eq_true rfl) ?_
      refine am_aload_n X dX7_countsActs_39 rfl rfl ?_
      refine am_iload_n X dX7_countsActs_40 rfl rfl ?_
      obtain ⟨v41, σ41, hc, h⟩ := bd2_some h
      refine am_callv_i1 X dX7_countsActs_41 cw_X7_293 (ct_X7_plainCounts hG N _ _ _ hc) (Nat.le_of_ble_eq_true rfl) rfl rfl rfl rfl (Nat.le_of_ble_eq_true rfl) ?_
      refine am_aload_n X dX7_countsActs_44 rfl rfl ?_
      refine am_getf (v := .int (rg σ41 60 36)) X dX7_countsActs_45 fl_X7_284 rfl rfl (by decide) ?_
      refine am_ixor X dX7_countsActs_48 ?_
      obtain rfl := Option.some.inj h
      exact am_iret X h0 dX7_countsActs_49 rfl ⟨rfl, rfl⟩
  · have h := if_f h c
    refine am_aload_n X dX7_countsActs_11 rfl rfl ?_
    refine am_bipush (v := (11 : Int32)) X dX7_countsActs_12 (by decide) ?_
    obtain ⟨σ14, hc, h⟩ := bd_some h
    refine am_callv_v1 X dX7_countsActs_14 cw_X7_281 (ct_X7_ranBody hG N _ _ _ hc) (Nat.le_of_ble_eq_true rfl) rfl rfl rfl rfl (Nat.le_of_ble_eq_true rfl) ?_
    refine am_aload_n X dX7_countsActs_17 rfl rfl ?_
    refine am_iload_n X dX7_countsActs_18 rfl rfl ?_
    refine am_iconst (v := (3 : Int32)) X dX7_countsActs_19 (by decide) ?_
    refine am_imul X dX7_countsActs_20 ?_
    obtain ⟨v21, σ21, hc, h⟩ := bd2_some h
    refine am_callv_i1 X dX7_countsActs_21 cw_X7_293 (ct_X7_plainCounts hG N _ _ _ hc) (Nat.le_of_ble_eq_true rfl) rfl rfl rfl rfl (Nat.le_of_ble_eq_true rfl) ?_
    obtain rfl := Option.some.inj h
    exact am_iret X h0 dX7_countsActs_24 rfl ⟨rfl, rfl⟩
set_option maxRecDepth 100000 in
set_option maxHeartbeats 4000000 in
theorem ct_X7_plainPays {G : Cx} (hG : am_G G) (N : Nat) (x1 : Int32) (σ : Sg) (r : Int32 × Sg) (h : f_X7_plainPays N x1 σ = some r) : am_Ct G 4 yX7_plainPays mX7_plainPays [.ref 60, .int x1] σ (am_qi r.1 r.2) := by
  refine am_enter hG rfl rfl (Nat.le_of_ble_eq_true rfl) ?_
  intro K h0 X
  unfold f_X7_plainPays at h
  refine am_jump (pc' := 0) (ls' := [some (.ref 60), some (.int x1)]) ?_ rfl ⟨rfl, rfl, trivial⟩
  refine am_aload_n X dX7_plainPays_0 rfl rfl ?_
  refine am_iconst (v := (2 : Int32)) X dX7_plainPays_1 (by decide) ?_
  obtain ⟨σ2, hc, h⟩ := bd_some h
  refine am_callv_v1 X dX7_plainPays_2 cw_X7_281 (ct_X7_ranBody hG N _ _ _ hc) (Nat.le_of_ble_eq_true rfl) rfl rfl rfl rfl (Nat.le_of_ble_eq_true rfl) ?_
  refine am_aload_n X dX7_plainPays_5 rfl rfl ?_
  refine am_iload_n X dX7_plainPays_6 rfl rfl ?_
  obtain ⟨v7, σ7, hc, h⟩ := bd2_some h
  refine am_callv_i1 X dX7_plainPays_7 cw_X7_296 (ct_X7_countsActs hG N _ _ _ hc) (Nat.le_of_ble_eq_true rfl) rfl rfl rfl rfl (Nat.le_of_ble_eq_true rfl) ?_
  refine am_aload_n X dX7_plainPays_10 rfl rfl ?_
  refine am_getf (v := .int (rg σ7 60 37)) X dX7_plainPays_11 fl_X7_299 rfl rfl (by decide) ?_
  refine am_isub X dX7_plainPays_14 ?_
  obtain rfl := Option.some.inj h
  exact am_iret X h0 dX7_plainPays_15 rfl ⟨rfl, rfl⟩
set_option maxRecDepth 100000 in
set_option maxHeartbeats 4000000 in
theorem ct_X7_paysActs {G : Cx} (hG : am_G G) (N : Nat) (x1 : Int32) (σ : Sg) (r : Int32 × Sg) (h : f_X7_paysActs N x1 σ = some r) : am_Ct G 5 yX7_paysActs mX7_paysActs [.ref 60, .int x1] σ (am_qi r.1 r.2) := by
  refine am_enter hG rfl rfl (Nat.le_of_ble_eq_true rfl) ?_
  intro K h0 X
  unfold f_X7_paysActs at h
  refine am_jump (pc' := 0) (ls' := [some (.ref 60), some (.int x1)]) ?_ rfl ⟨rfl, rfl, trivial⟩
  refine am_aload_n X dX7_paysActs_0 rfl rfl ?_
  refine am_getf (v := .int (rg σ 60 35)) X dX7_paysActs_1 fl_X7_287 rfl rfl (by decide) ?_
  refine am_iconst (v := (2 : Int32)) X dX7_paysActs_4 (by decide) ?_
  obtain ⟨v5, σ5, hc, h⟩ := bd2_some h
  refine am_calls_i2 X dX7_paysActs_5 cw_X7_290 (ct_X7_isUnder hG N _ _ _ _ hc) (Nat.le_of_ble_eq_true rfl) rfl (Nat.le_of_ble_eq_true rfl) ?_
  refine am_if_eq (tgt := 24) X dX7_paysActs_8 (by decide) (fun c => ?_) (fun c => ?_)
  · have h := if_t h c
    refine am_aload_n X dX7_paysActs_24 rfl rfl ?_
    refine am_getf (v := .int (rg σ5 60 35)) X dX7_paysActs_25 fl_X7_287 rfl rfl (by decide) ?_
    refine am_bipush (v := (6 : Int32)) X dX7_paysActs_28 (by decide) ?_
    refine am_icmp_ne (tgt := 50) X dX7_paysActs_30 (by decide) (fun c => ?_) (fun c => ?_)
    · have h := if_f h c
      refine am_aload_n X dX7_paysActs_50 rfl rfl ?_
      refine am_iload_n X dX7_paysActs_51 rfl rfl ?_
      obtain ⟨v52, σ52, hc, h⟩ := bd2_some h
      refine am_callv_i1 X dX7_paysActs_52 cw_X7_302 (ct_X7_plainPays hG N _ _ _ hc) (Nat.le_of_ble_eq_true rfl) rfl rfl rfl rfl (Nat.le_of_ble_eq_true rfl) ?_
      obtain rfl := Option.some.inj h
      exact am_iret X h0 dX7_paysActs_55 rfl ⟨rfl, rfl⟩
    · have h := if_t h c
      refine am_aload_n X dX7_paysActs_33 rfl rfl ?_
      refine am_bipush (v := (61 : Int32)) X dX7_paysActs_34 (by decide) ?_
      obtain ⟨σ36, hc, h⟩ := bd_some h
      refine am_callv_v1 X dX7_paysActs_36 cw_X7_281 (ct_X7_ranBody hG N _ _ _ hc) (Nat.le_of_ble_eq_true rfl) rfl rfl rfl rfl (Nat.le_of_ble_eq_true rfl) ?_
      refine am_aload_n X dX7_paysActs_39 rfl rfl ?_
      refine am_iload_n X dX7_paysActs_40 rfl rfl ?_
      obtain ⟨v41, σ41, hc, h⟩ := bd2_some h
      refine am_callv_i1 X dX7_paysActs_41 cw_X7_302 (ct_X7_plainPays hG N _ _ _ hc) (Nat.le_of_ble_eq_true rfl) rfl rfl rfl rfl (Nat.le_of_ble_eq_true rfl) ?_
      refine am_aload_n X dX7_paysActs_44 rfl rfl ?_
      refine am_getf (v := .int (rg σ41 60 37)) X dX7_paysActs_45 fl_X7_299 rfl rfl (by decide) ?_
      refine am_iadd X dX7_paysActs_48 ?_
      obtain rfl := Option.some.inj h
      exact am_iret X h0 dX7_paysActs_49 rfl ⟨rfl, rfl⟩
  · have h := if_f h c
    refine am_aload_n X dX7_paysActs_11 rfl rfl ?_
    refine am_bipush (v := (21 : Int32)) X dX7_paysActs_12 (by decide) ?_
    obtain ⟨σ14, hc, h⟩ := bd_some h
    refine am_callv_v1 X dX7_paysActs_14 cw_X7_281 (ct_X7_ranBody hG N _ _ _ hc) (Nat.le_of_ble_eq_true rfl) rfl rfl rfl rfl (Nat.le_of_ble_eq_true rfl) ?_
    refine am_aload_n X dX7_paysActs_17 rfl rfl ?_
    refine am_iload_n X dX7_paysActs_18 rfl rfl ?_
    obtain ⟨v19, σ19, hc, h⟩ := bd2_some h
    refine am_callv_i1 X dX7_paysActs_19 cw_X7_302 (ct_X7_plainPays hG N _ _ _ hc) (Nat.le_of_ble_eq_true rfl) rfl rfl rfl rfl (Nat.le_of_ble_eq_true rfl) ?_
    refine am_ineg X dX7_paysActs_22 ?_
    obtain rfl := Option.some.inj h
    exact am_iret X h0 dX7_paysActs_23 rfl ⟨rfl, rfl⟩
set_option maxRecDepth 100000 in
set_option maxHeartbeats 4000000 in
theorem ct_X7_plainTells {G : Cx} (hG : am_G G) (N : Nat) (x1 : Int32) (σ : Sg) (r : Int32 × Sg) (h : f_X7_plainTells N x1 σ = some r) : am_Ct G 6 yX7_plainTells mX7_plainTells [.ref 60, .int x1] σ (am_qi r.1 r.2) := by
  refine am_enter hG rfl rfl (Nat.le_of_ble_eq_true rfl) ?_
  intro K h0 X
  unfold f_X7_plainTells at h
  refine am_jump (pc' := 0) (ls' := [some (.ref 60), some (.int x1)]) ?_ rfl ⟨rfl, rfl, trivial⟩
  refine am_aload_n X dX7_plainTells_0 rfl rfl ?_
  refine am_iconst (v := (3 : Int32)) X dX7_plainTells_1 (by decide) ?_
  obtain ⟨σ2, hc, h⟩ := bd_some h
  refine am_callv_v1 X dX7_plainTells_2 cw_X7_281 (ct_X7_ranBody hG N _ _ _ hc) (Nat.le_of_ble_eq_true rfl) rfl rfl rfl rfl (Nat.le_of_ble_eq_true rfl) ?_
  refine am_aload_n X dX7_plainTells_5 rfl rfl ?_
  refine am_iload_n X dX7_plainTells_6 rfl rfl ?_
  obtain ⟨v7, σ7, hc, h⟩ := bd2_some h
  refine am_callv_i1 X dX7_plainTells_7 cw_X7_305 (ct_X7_paysActs hG N _ _ _ hc) (Nat.le_of_ble_eq_true rfl) rfl rfl rfl rfl (Nat.le_of_ble_eq_true rfl) ?_
  refine am_iconst (v := (2 : Int32)) X dX7_plainTells_10 (by decide) ?_
  refine am_imul X dX7_plainTells_11 ?_
  obtain rfl := Option.some.inj h
  exact am_iret X h0 dX7_plainTells_12 rfl ⟨rfl, rfl⟩
set_option maxRecDepth 100000 in
set_option maxHeartbeats 4000000 in
theorem ct_X7_tellsActs {G : Cx} (hG : am_G G) (N : Nat) (x1 : Int32) (σ : Sg) (r : Int32 × Sg) (h : f_X7_tellsActs N x1 σ = some r) : am_Ct G 7 yX7_tellsActs mX7_tellsActs [.ref 60, .int x1] σ (am_qi r.1 r.2) := by
  refine am_enter hG rfl rfl (Nat.le_of_ble_eq_true rfl) ?_
  intro K h0 X
  unfold f_X7_tellsActs at h
  refine am_jump (pc' := 0) (ls' := [some (.ref 60), some (.int x1), none]) ?_ rfl ⟨rfl, rfl, trivial⟩
  refine am_aload_n X dX7_tellsActs_0 rfl rfl ?_
  refine am_getf (v := .int (rg σ 60 35)) X dX7_tellsActs_1 fl_X7_287 rfl rfl (by decide) ?_
  refine am_iconst (v := (3 : Int32)) X dX7_tellsActs_4 (by decide) ?_
  obtain ⟨v5, σ5, hc, h⟩ := bd2_some h
  refine am_calls_i2 X dX7_tellsActs_5 cw_X7_290 (ct_X7_isUnder hG N _ _ _ _ hc) (Nat.le_of_ble_eq_true rfl) rfl (Nat.le_of_ble_eq_true rfl) ?_
  refine am_if_eq (tgt := 26) X dX7_tellsActs_8 (by decide) (fun c => ?_) (fun c => ?_)
  · have h := if_t h c
    refine am_aload_n X dX7_tellsActs_26 rfl rfl ?_
    refine am_getf (v := .int (rg σ5 60 35)) X dX7_tellsActs_27 fl_X7_287 rfl rfl (by decide) ?_
    refine am_iconst (v := (4 : Int32)) X dX7_tellsActs_30 (by decide) ?_
    refine am_icmp_ne (tgt := 56) X dX7_tellsActs_31 (by decide) (fun c => ?_) (fun c => ?_)
    · have h := if_f h c
      refine am_aload_n X dX7_tellsActs_56 rfl rfl ?_
      refine am_iload_n X dX7_tellsActs_57 rfl rfl ?_
      obtain ⟨v58, σ58, hc, h⟩ := bd2_some h
      refine am_callv_i1 X dX7_tellsActs_58 cw_X7_308 (ct_X7_plainTells hG N _ _ _ hc) (Nat.le_of_ble_eq_true rfl) rfl rfl rfl rfl (Nat.le_of_ble_eq_true rfl) ?_
      obtain rfl := Option.some.inj h
      exact am_iret X h0 dX7_tellsActs_61 rfl ⟨rfl, rfl⟩
    · have h := if_t h c
      refine am_aload_n X dX7_tellsActs_34 rfl rfl ?_
      refine am_bipush (v := (41 : Int32)) X dX7_tellsActs_35 (by decide) ?_
      obtain ⟨σ37, hc, h⟩ := bd_some h
      refine am_callv_v1 X dX7_tellsActs_37 cw_X7_281 (ct_X7_ranBody hG N _ _ _ hc) (Nat.le_of_ble_eq_true rfl) rfl rfl rfl rfl (Nat.le_of_ble_eq_true rfl) ?_
      refine am_aload_n X dX7_tellsActs_40 rfl rfl ?_
      refine am_iload_n X dX7_tellsActs_41 rfl rfl ?_
      refine am_iconst (v := (1 : Int32)) X dX7_tellsActs_42 (by decide) ?_
      refine am_isub X dX7_tellsActs_43 ?_
      obtain ⟨v44, σ44, hc, h⟩ := bd2_some h
      refine am_callv_i1 X dX7_tellsActs_44 cw_X7_308 (ct_X7_plainTells hG N _ _ _ hc) (Nat.le_of_ble_eq_true rfl) rfl rfl rfl rfl (Nat.le_of_ble_eq_true rfl) ?_
      refine am_istore_n (ls' := [some (.ref 60), some (.int x1), some (.int v44)]) X dX7_tellsActs_47 rfl (by decide)  rfl rfl ?_
      refine am_iload_n X dX7_tellsActs_48 rfl rfl ?_
      refine am_aload_n X dX7_tellsActs_49 rfl rfl ?_
      refine am_iconst (v := (2 : Int32)) X dX7_tellsActs_50 (by decide) ?_
      obtain ⟨v51, σ51, hc, h⟩ := bd2_some h
      refine am_callv_i1 X dX7_tellsActs_51 cw_X7_296 (ct_X7_countsActs hG N _ _ _ hc) (Nat.le_of_ble_eq_true rfl) rfl rfl rfl rfl (Nat.le_of_ble_eq_true rfl) ?_
      refine am_iadd X dX7_tellsActs_54 ?_
      obtain rfl := Option.some.inj h
      exact am_iret X h0 dX7_tellsActs_55 rfl ⟨rfl, rfl⟩
  · have h := if_f h c
    refine am_aload_n X dX7_tellsActs_11 rfl rfl ?_
    refine am_bipush (v := (31 : Int32)) X dX7_tellsActs_12 (by decide) ?_
    obtain ⟨σ14, hc, h⟩ := bd_some h
    refine am_callv_v1 X dX7_tellsActs_14 cw_X7_281 (ct_X7_ranBody hG N _ _ _ hc) (Nat.le_of_ble_eq_true rfl) rfl rfl rfl rfl (Nat.le_of_ble_eq_true rfl) ?_
    refine am_aload_n X dX7_tellsActs_17 rfl rfl ?_
    refine am_iload_n X dX7_tellsActs_18 rfl rfl ?_
    obtain ⟨v19, σ19, hc, h⟩ := bd2_some h
    refine am_callv_i1 X dX7_tellsActs_19 cw_X7_308 (ct_X7_plainTells hG N _ _ _ hc) (Nat.le_of_ble_eq_true rfl) rfl rfl rfl rfl (Nat.le_of_ble_eq_true rfl) ?_
    refine am_bipush (v := (7 : Int32)) X dX7_tellsActs_22 (by decide) ?_
    refine am_ixor X dX7_tellsActs_24 ?_
    obtain rfl := Option.some.inj h
    exact am_iret X h0 dX7_tellsActs_25 rfl ⟨rfl, rfl⟩
set_option maxRecDepth 100000 in
set_option maxHeartbeats 4000000 in
theorem ct_X7_act {G : Cx} (hG : am_G G) (N : Nat) (x1 : Int32) (x2 : Int32) (x3 : Int32) (σ : Sg) (r : Int32 × Sg) (h : f_X7_act N x1 x2 x3 σ = some r) : am_Ct G 8 yX7_act mX7_act [.ref 60, .int x1, .int x2, .int x3] σ (am_qi r.1 r.2) := by
  refine am_enter hG rfl rfl (Nat.le_of_ble_eq_true rfl) ?_
  intro K h0 X
  unfold f_X7_act at h
  refine am_jump (pc' := 0) (ls' := [some (.ref 60), some (.int x1), some (.int x2), some (.int x3)]) ?_ rfl ⟨rfl, rfl, rfl, rfl, trivial⟩
  refine am_aload_n X dX7_act_0 rfl rfl ?_
  refine am_iconst (v := (0 : Int32)) X dX7_act_1 (by decide) ?_
  refine am_putfi X dX7_act_2 fp_X7_278 rfl rfl ?_
  refine am_tops h (fun σ2 h => ?_)
  refine am_aload_n X dX7_act_5 rfl rfl ?_
  refine am_iload_n X dX7_act_6 rfl rfl ?_
  obtain ⟨v7, σ7, hc, h⟩ := bd2_some h
  refine am_callv_i1 X dX7_act_7 cw_X7_161 (ct_X7_isStreet hG N _ _ _ hc) (Nat.le_of_ble_eq_true rfl) rfl rfl rfl rfl (Nat.le_of_ble_eq_true rfl) ?_
  refine am_if_eq (tgt := 22) X dX7_act_10 (by decide) (fun c => ?_) (fun c => ?_)
  · have h := if_t h c
    refine am_iconst (v := (0 : Int32)) X dX7_act_22 (by decide) ?_
    obtain rfl := Option.some.inj h
    exact am_iret X h0 dX7_act_23 rfl ⟨rfl, rfl⟩
  · have h := if_f h c
    refine am_iload_n X dX7_act_13 rfl rfl ?_
    refine am_iconst (v := (0 : Int32)) X dX7_act_14 (by decide) ?_
    refine am_iconst (v := (2 : Int32)) X dX7_act_15 (by decide) ?_
    obtain ⟨v16, σ16, hc, h⟩ := bd2_some h
    refine am_calls_i3 X dX7_act_16 cw_X7_84 (ct_X7_in hG N _ _ _ _ _ hc) (Nat.le_of_ble_eq_true rfl) rfl (Nat.le_of_ble_eq_true rfl) ?_
    refine am_if_ne (tgt := 24) X dX7_act_19 (by decide) (fun c => ?_) (fun c => ?_)
    · have h := if_f h c
      refine am_aload_n X dX7_act_24 rfl rfl ?_
      refine am_aload_n X dX7_act_25 rfl rfl ?_
      refine am_getf (v := .ref 61) X dX7_act_26 fl_X7_9 rfl rfl (by decide) ?_
      refine am_bipush (v := (10 : Int32)) X dX7_act_29 (by decide) ?_
      refine am_iload_n X dX7_act_31 rfl rfl ?_
      refine am_iadd X dX7_act_32 ?_
      obtain ⟨g, h⟩ := gd_some h
      refine am_iald X dX7_act_33 rfl g ?_
      refine am_putfi X dX7_act_34 fp_X7_287 rfl rfl ?_
      refine am_tops h (fun σ34 h => ?_)
      refine am_aload_n X dX7_act_37 rfl rfl ?_
      refine am_iload_n X dX7_act_38 rfl rfl ?_
      refine am_putfi X dX7_act_39 fp_X7_284 rfl rfl ?_
      refine am_tops h (fun σ39 h => ?_)
      refine am_aload_n X dX7_act_42 rfl rfl ?_
      refine am_aload_n X dX7_act_43 rfl rfl ?_
      refine am_getf (v := .ref 61) X dX7_act_44 fl_X7_9 rfl rfl (by decide) ?_
      refine am_bipush (v := (17 : Int32)) X dX7_act_47 (by decide) ?_
      refine am_iload_n X dX7_act_49 rfl rfl ?_
      refine am_iadd X dX7_act_50 ?_
      obtain ⟨g, h⟩ := gd_some h
      refine am_iald X dX7_act_51 rfl g ?_
      refine am_putfi X dX7_act_52 fp_X7_299 rfl rfl ?_
      refine am_tops h (fun σ52 h => ?_)
      refine am_iload_n X dX7_act_55 rfl rfl ?_
      refine am_if_ne (tgt := 67) X dX7_act_56 (by decide) (fun c => ?_) (fun c => ?_)
      · have h := if_f h c
        refine am_iload_n X dX7_act_67 rfl rfl ?_
        refine am_iconst (v := (1 : Int32)) X dX7_act_68 (by decide) ?_
        refine am_icmp_ne (tgt := 80) X dX7_act_69 (by decide) (fun c => ?_) (fun c => ?_)
        · have h := if_f h c
          refine am_aload_n X dX7_act_80 rfl rfl ?_
          refine am_iload_n X dX7_act_81 rfl rfl ?_
          obtain ⟨v82, σ82, hc, h⟩ := bd2_some h
          refine am_callv_i1 X dX7_act_82 cw_X7_311 (ct_X7_tellsActs hG N _ _ _ hc) (Nat.le_of_ble_eq_true rfl) rfl rfl rfl rfl (Nat.le_of_ble_eq_true rfl) ?_
          obtain rfl := Option.some.inj h
          exact am_iret X h0 dX7_act_85 rfl ⟨rfl, rfl⟩
        · have h := if_t h c
          refine am_aload_n X dX7_act_72 rfl rfl ?_
          refine am_iload_n X dX7_act_73 rfl rfl ?_
          obtain ⟨v74, σ74, hc, h⟩ := bd2_some h
          refine am_callv_i1 X dX7_act_74 cw_X7_305 (ct_X7_paysActs hG N _ _ _ hc) (Nat.le_of_ble_eq_true rfl) rfl rfl rfl rfl (Nat.le_of_ble_eq_true rfl) ?_
          refine am_goto (tgt := 85) X dX7_act_77 (by decide) ?_
          obtain rfl := Option.some.inj h
          exact am_iret X h0 dX7_act_85 rfl ⟨rfl, rfl⟩
      · have h := if_t h c
        refine am_aload_n X dX7_act_59 rfl rfl ?_
        refine am_iload_n X dX7_act_60 rfl rfl ?_
        obtain ⟨v61, σ61, hc, h⟩ := bd2_some h
        refine am_callv_i1 X dX7_act_61 cw_X7_296 (ct_X7_countsActs hG N _ _ _ hc) (Nat.le_of_ble_eq_true rfl) rfl rfl rfl rfl (Nat.le_of_ble_eq_true rfl) ?_
        refine am_goto (tgt := 85) X dX7_act_64 (by decide) ?_
        obtain rfl := Option.some.inj h
        exact am_iret X h0 dX7_act_85 rfl ⟨rfl, rfl⟩
    · have h := if_t h c
      refine am_iconst (v := (0 : Int32)) X dX7_act_22 (by decide) ?_
      obtain rfl := Option.some.inj h
      exact am_iret X h0 dX7_act_23 rfl ⟨rfl, rfl⟩
set_option maxRecDepth 100000 in
set_option maxHeartbeats 4000000 in
theorem ct_X7_as {G : Cx} (hG : am_G G) (N : Nat) (x1 : Int32) (x2 : Int32) (σ : Sg) (r : Int32 × Sg) (h : f_X7_as N x1 x2 σ = some r) : am_Ct G 3 yX7_as mX7_as [.ref 60, .int x1, .int x2] σ (am_qi r.1 r.2) := by
  refine am_enter hG rfl rfl (Nat.le_of_ble_eq_true rfl) ?_
  intro K h0 X
  unfold f_X7_as at h
  refine am_jump (pc' := 0) (ls' := [some (.ref 60), some (.int x1), some (.int x2)]) ?_ rfl ⟨rfl, rfl, rfl, trivial⟩
  refine am_aload_n X dX7_as_0 rfl rfl ?_
  refine am_iload_n X dX7_as_1 rfl rfl ?_
  obtain ⟨v2, σ2, hc, h⟩ := bd2_some h
  refine am_callv_i1 X dX7_as_2 cw_X7_161 (ct_X7_isStreet hG N _ _ _ hc) (Nat.le_of_ble_eq_true rfl) rfl rfl rfl rfl (Nat.le_of_ble_eq_true rfl) ?_
  refine am_if_eq (tgt := 18) X dX7_as_5 (by decide) (fun c => ?_) (fun c => ?_)
  · have h := if_t h c
    refine am_iconst (v := (-1 : Int32)) X dX7_as_18 (by decide) ?_
    obtain rfl := Option.some.inj h
    exact am_iret X h0 dX7_as_19 rfl ⟨rfl, rfl⟩
  · have h := if_f h c
    refine am_iload_n X dX7_as_8 rfl rfl ?_
    refine am_iconst (v := (0 : Int32)) X dX7_as_9 (by decide) ?_
    refine am_bipush (v := (6 : Int32)) X dX7_as_10 (by decide) ?_
    obtain ⟨v12, σ12, hc, h⟩ := bd2_some h
    refine am_calls_i3 X dX7_as_12 cw_X7_84 (ct_X7_in hG N _ _ _ _ _ hc) (Nat.le_of_ble_eq_true rfl) rfl (Nat.le_of_ble_eq_true rfl) ?_
    refine am_if_ne (tgt := 20) X dX7_as_15 (by decide) (fun c => ?_) (fun c => ?_)
    · have h := if_f h c
      refine am_aload_n X dX7_as_20 rfl rfl ?_
      refine am_getf (v := .ref 61) X dX7_as_21 fl_X7_9 rfl rfl (by decide) ?_
      refine am_bipush (v := (10 : Int32)) X dX7_as_24 (by decide) ?_
      refine am_iload_n X dX7_as_26 rfl rfl ?_
      refine am_iadd X dX7_as_27 ?_
      obtain ⟨g, h⟩ := gd_some h
      refine am_iald X dX7_as_28 rfl g ?_
      refine am_iload_n X dX7_as_29 rfl rfl ?_
      obtain ⟨v30, σ30, hc, h⟩ := bd2_some h
      refine am_calls_i2 X dX7_as_30 cw_X7_290 (ct_X7_isUnder hG N _ _ _ _ hc) (Nat.le_of_ble_eq_true rfl) rfl (Nat.le_of_ble_eq_true rfl) ?_
      refine am_if_eq (tgt := 48) X dX7_as_33 (by decide) (fun c => ?_) (fun c => ?_)
      · have h := if_t h c
        refine am_bipush (v := (-6 : Int32)) X dX7_as_48 (by decide) ?_
        obtain rfl := Option.some.inj h
        exact am_iret X h0 dX7_as_50 rfl ⟨rfl, rfl⟩
      · have h := if_f h c
        refine am_aload_n X dX7_as_36 rfl rfl ?_
        refine am_getf (v := .ref 61) X dX7_as_37 fl_X7_9 rfl rfl (by decide) ?_
        refine am_bipush (v := (17 : Int32)) X dX7_as_40 (by decide) ?_
        refine am_iload_n X dX7_as_42 rfl rfl ?_
        refine am_iadd X dX7_as_43 ?_
        obtain ⟨g, h⟩ := gd_some h
        refine am_iald X dX7_as_44 rfl g ?_
        refine am_goto (tgt := 50) X dX7_as_45 (by decide) ?_
        obtain rfl := Option.some.inj h
        exact am_iret X h0 dX7_as_50 rfl ⟨rfl, rfl⟩
    · have h := if_t h c
      refine am_iconst (v := (-1 : Int32)) X dX7_as_18 (by decide) ?_
      obtain rfl := Option.some.inj h
      exact am_iret X h0 dX7_as_19 rfl ⟨rfl, rfl⟩
set_option maxRecDepth 100000 in
set_option maxHeartbeats 4000000 in
theorem ct_X7_uneven {G : Cx} (hG : am_G G) (N : Nat) (x1 : Int32) (σ : Sg) (r : Int32 × Sg) (h : f_X7_uneven N x1 σ = some r) : am_Ct G 1 yX7_uneven mX7_uneven [.ref 60, .int x1] σ (am_qi r.1 r.2) := by
  refine am_enter hG rfl rfl (Nat.le_of_ble_eq_true rfl) ?_
  intro K h0 X
  unfold f_X7_uneven at h
  refine am_jump (pc' := 0) (ls' := [some (.ref 60), some (.int x1)]) ?_ rfl ⟨rfl, rfl, trivial⟩
  refine am_aload_n X dX7_uneven_0 rfl rfl ?_
  refine am_getf (v := .ref 61) X dX7_uneven_1 fl_X7_9 rfl rfl (by decide) ?_
  refine am_bipush (v := (24 : Int32)) X dX7_uneven_4 (by decide) ?_
  refine am_iload_n X dX7_uneven_6 rfl rfl ?_
  refine am_iadd X dX7_uneven_7 ?_
  obtain ⟨g, h⟩ := gd_some h
  refine am_iald X dX7_uneven_8 rfl g ?_
  refine am_aload_n X dX7_uneven_9 rfl rfl ?_
  refine am_getf (v := .ref 61) X dX7_uneven_10 fl_X7_9 rfl rfl (by decide) ?_
  refine am_bipush (v := (31 : Int32)) X dX7_uneven_13 (by decide) ?_
  refine am_iload_n X dX7_uneven_15 rfl rfl ?_
  refine am_iadd X dX7_uneven_16 ?_
  obtain ⟨g, h⟩ := gd_some h
  refine am_iald X dX7_uneven_17 rfl g ?_
  refine am_isub X dX7_uneven_18 ?_
  obtain rfl := Option.some.inj h
  exact am_iret X h0 dX7_uneven_19 rfl ⟨rfl, rfl⟩
set_option maxRecDepth 100000 in
set_option maxHeartbeats 4000000 in
theorem ct_X7_size {G : Cx} (hG : am_G G) (N : Nat) (x0 : Int32) (σ : Sg) (r : Int32 × Sg) (h : f_X7_size N x0 σ = some r) : am_Ct G 1 yX7_size mX7_size [.int x0] σ (am_qi r.1 r.2) := by
  refine am_enter hG rfl rfl (Nat.le_of_ble_eq_true rfl) ?_
  intro K h0 X
  unfold f_X7_size at h
  refine am_jump (pc' := 0) (ls' := [some (.int x0)]) ?_ rfl ⟨rfl, trivial⟩
  refine am_iload_n X dX7_size_0 rfl rfl ?_
  refine am_if_ge (tgt := 9) X dX7_size_1 (by decide) (fun c => ?_) (fun c => ?_)
  · have h := if_t h c
    refine am_iload_n X dX7_size_9 rfl rfl ?_
    obtain rfl := Option.some.inj h
    exact am_iret X h0 dX7_size_10 rfl ⟨rfl, rfl⟩
  · have h := if_f h c
    refine am_iload_n X dX7_size_4 rfl rfl ?_
    refine am_ineg X dX7_size_5 ?_
    refine am_goto (tgt := 10) X dX7_size_6 (by decide) ?_
    obtain rfl := Option.some.inj h
    exact am_iret X h0 dX7_size_10 rfl ⟨rfl, rfl⟩
set_option maxRecDepth 100000 in
set_option maxHeartbeats 4000000 in
theorem t_X7_leadsFrom_4b {G : Cx} (hG : am_G G) (N : Nat) (k4 : Int32 → Int32 → Int32 → Sg → Option (Int32 × Sg)) (hk4 : ∀ (x1 : Int32) (x2 : Int32) (x3 : Int32) (σ : Sg) (r : Int32 × Sg), k4 x1 x2 x3 σ = some r → am_Wp G mX7_leadsFrom 0 (am_qi r.1 r.2) 4 [some (.ref 60), some (.int x1), some (.int x2), some (.int x3)] [] σ) (x1 : Int32) (x2 : Int32) (x3 : Int32) (σ : Sg) (r : Int32 × Sg) (h : b_X7_leadsFrom_4b N k4 x1 x2 x3 σ = some r) : am_Wp G mX7_leadsFrom 0 (am_qi r.1 r.2) 4 [some (.ref 60), some (.int x1), some (.int x2), some (.int x3)] [] σ := by
  intro K h0 X
  unfold b_X7_leadsFrom_4b at h
  refine am_iload_n X dX7_leadsFrom_4 rfl rfl ?_
  refine am_aload_n X dX7_leadsFrom_5 rfl rfl ?_
  refine am_getf (v := .ref 61) X dX7_leadsFrom_6 fl_X7_9 rfl rfl (by decide) ?_
  refine am_iconst (v := (0 : Int32)) X dX7_leadsFrom_9 (by decide) ?_
  obtain ⟨g, h⟩ := gd_some h
  refine am_iald X dX7_leadsFrom_10 rfl g ?_
  refine am_icmp_ge (tgt := 39) X dX7_leadsFrom_11 (by decide) (fun c => ?_) (fun c => ?_)
  · have h := if_t h c
    refine am_iload_n X dX7_leadsFrom_39 rfl rfl ?_
    obtain rfl := Option.some.inj h
    exact am_iret X h0 dX7_leadsFrom_40 rfl ⟨rfl, rfl⟩
  · have h := if_f h c
    refine am_iload_n X dX7_leadsFrom_14 rfl rfl ?_
    refine am_aload_n X dX7_leadsFrom_15 rfl rfl ?_
    refine am_getf (v := .ref 61) X dX7_leadsFrom_16 fl_X7_9 rfl rfl (by decide) ?_
    refine am_bipush (v := (38 : Int32)) X dX7_leadsFrom_19 (by decide) ?_
    refine am_bipush (v := (7 : Int32)) X dX7_leadsFrom_21 (by decide) ?_
    refine am_iload_n X dX7_leadsFrom_23 rfl rfl ?_
    refine am_imul X dX7_leadsFrom_24 ?_
    refine am_iadd X dX7_leadsFrom_25 ?_
    refine am_iload_n X dX7_leadsFrom_26 rfl rfl ?_
    refine am_iadd X dX7_leadsFrom_27 ?_
    obtain ⟨g, h⟩ := gd_some h
    refine am_iald X dX7_leadsFrom_28 rfl g ?_
    refine am_iload_n X dX7_leadsFrom_29 rfl rfl ?_
    refine am_ishl X dX7_leadsFrom_30 ?_
    refine am_ior X dX7_leadsFrom_31 ?_
    refine am_topi h (fun x2_32 h => ?_)
    refine am_istore_n (ls' := [some (.ref 60), some (.int x1), some (.int x2_32), some (.int x3)]) X dX7_leadsFrom_32 rfl (by decide)  rfl rfl ?_
    refine am_iinc (ls' := fun x3_33 => [some (.ref 60), some (.int x1), some (.int x2_32), some (.int x3_33)]) X dX7_leadsFrom_33 rfl h (by decide) (by decide) rfl (fun _ => rfl) (fun x3_33 h => ?_)
    refine am_goto (tgt := 4) X dX7_leadsFrom_36 (by decide) ?_
    exact am_jump (hk4 _ _ _ _ _ h K h0 X) rfl ⟨rfl, rfl, rfl, rfl, trivial⟩
set_option maxRecDepth 100000 in
set_option maxHeartbeats 4000000 in
theorem t_X7_leadsFrom_4 {G : Cx} (hG : am_G G) (N : Nat) : ∀ (n : Nat) (x1 : Int32) (x2 : Int32) (x3 : Int32) (σ : Sg) (r : Int32 × Sg), b_X7_leadsFrom_4 N n x1 x2 x3 σ = some r → am_Wp G mX7_leadsFrom 0 (am_qi r.1 r.2) 4 [some (.ref 60), some (.int x1), some (.int x2), some (.int x3)] [] σ := by
  intro n
  induction n with
  | zero => intro x1 x2 x3 σ r h; cases h
  | succ n ih => intro x1 x2 x3 σ r h; exact t_X7_leadsFrom_4b hG N (b_X7_leadsFrom_4 N n) ih x1 x2 x3 σ r h
set_option maxRecDepth 100000 in
set_option maxHeartbeats 4000000 in
theorem ct_X7_leadsFrom {G : Cx} (hG : am_G G) (N : Nat) (x1 : Int32) (σ : Sg) (r : Int32 × Sg) (h : f_X7_leadsFrom N x1 σ = some r) : am_Ct G 1 yX7_leadsFrom mX7_leadsFrom [.ref 60, .int x1] σ (am_qi r.1 r.2) := by
  refine am_enter hG rfl rfl (Nat.le_of_ble_eq_true rfl) ?_
  intro K h0 X
  unfold f_X7_leadsFrom at h
  refine am_jump (pc' := 0) (ls' := [some (.ref 60), some (.int x1), none, none]) ?_ rfl ⟨rfl, rfl, trivial⟩
  refine am_iconst (v := (0 : Int32)) X dX7_leadsFrom_0 (by decide) ?_
  refine am_istore_n (ls' := [some (.ref 60), some (.int x1), some (.int (0 : Int32)), none]) X dX7_leadsFrom_1 rfl (by decide)  rfl rfl ?_
  refine am_iconst (v := (0 : Int32)) X dX7_leadsFrom_2 (by decide) ?_
  refine am_istore_n (ls' := [some (.ref 60), some (.int x1), some (.int (0 : Int32)), some (.int (0 : Int32))]) X dX7_leadsFrom_3 rfl (by decide)  rfl rfl ?_
  exact am_jump (t_X7_leadsFrom_4 hG N N _ _ _ _ _ h K h0 X) rfl ⟨rfl, rfl, rfl, rfl, trivial⟩
set_option maxRecDepth 100000 in
set_option maxHeartbeats 4000000 in
theorem t_X7_count1_4b {G : Cx} (hG : am_G G) (N : Nat) (k4 : Int32 → Int32 → Int32 → Sg → Option (Int32 × Sg)) (hk4 : ∀ (x0 : Int32) (x1 : Int32) (x2 : Int32) (σ : Sg) (r : Int32 × Sg), k4 x0 x1 x2 σ = some r → am_Wp G mX7_count1 0 (am_qi r.1 r.2) 4 [some (.int x0), some (.int x1), some (.int x2)] [] σ) (x0 : Int32) (x1 : Int32) (x2 : Int32) (σ : Sg) (r : Int32 × Sg) (h : b_X7_count1_4b N k4 x0 x1 x2 σ = some r) : am_Wp G mX7_count1 0 (am_qi r.1 r.2) 4 [some (.int x0), some (.int x1), some (.int x2)] [] σ := by
  intro K h0 X
  unfold b_X7_count1_4b at h
  refine am_iload_n X dX7_count1_4 rfl rfl ?_
  refine am_bipush (v := (7 : Int32)) X dX7_count1_5 (by decide) ?_
  refine am_icmp_ge (tgt := 24) X dX7_count1_7 (by decide) (fun c => ?_) (fun c => ?_)
  · have h := if_t h c
    refine am_iload_n X dX7_count1_24 rfl rfl ?_
    obtain rfl := Option.some.inj h
    exact am_iret X h0 dX7_count1_25 rfl ⟨rfl, rfl⟩
  · have h := if_f h c
    refine am_iload_n X dX7_count1_10 rfl rfl ?_
    refine am_iload_n X dX7_count1_11 rfl rfl ?_
    refine am_iload_n X dX7_count1_12 rfl rfl ?_
    refine am_ishr X dX7_count1_13 ?_
    refine am_iconst (v := (1 : Int32)) X dX7_count1_14 (by decide) ?_
    refine am_iand X dX7_count1_15 ?_
    refine am_iadd X dX7_count1_16 ?_
    refine am_topi h (fun x1_17 h => ?_)
    refine am_istore_n (ls' := [some (.int x0), some (.int x1_17), some (.int x2)]) X dX7_count1_17 rfl (by decide)  rfl rfl ?_
    refine am_iinc (ls' := fun x2_18 => [some (.int x0), some (.int x1_17), some (.int x2_18)]) X dX7_count1_18 rfl h (by decide) (by decide) rfl (fun _ => rfl) (fun x2_18 h => ?_)
    refine am_goto (tgt := 4) X dX7_count1_21 (by decide) ?_
    exact am_jump (hk4 _ _ _ _ _ h K h0 X) rfl ⟨rfl, rfl, rfl, trivial⟩
set_option maxRecDepth 100000 in
set_option maxHeartbeats 4000000 in
theorem t_X7_count1_4 {G : Cx} (hG : am_G G) (N : Nat) : ∀ (n : Nat) (x0 : Int32) (x1 : Int32) (x2 : Int32) (σ : Sg) (r : Int32 × Sg), b_X7_count1_4 N n x0 x1 x2 σ = some r → am_Wp G mX7_count1 0 (am_qi r.1 r.2) 4 [some (.int x0), some (.int x1), some (.int x2)] [] σ := by
  intro n
  induction n with
  | zero => intro x0 x1 x2 σ r h; cases h
  | succ n ih => intro x0 x1 x2 σ r h; exact t_X7_count1_4b hG N (b_X7_count1_4 N n) ih x0 x1 x2 σ r h
set_option maxRecDepth 100000 in
set_option maxHeartbeats 4000000 in
theorem ct_X7_count1 {G : Cx} (hG : am_G G) (N : Nat) (x0 : Int32) (σ : Sg) (r : Int32 × Sg) (h : f_X7_count1 N x0 σ = some r) : am_Ct G 1 yX7_count1 mX7_count1 [.int x0] σ (am_qi r.1 r.2) := by
  refine am_enter hG rfl rfl (Nat.le_of_ble_eq_true rfl) ?_
  intro K h0 X
  unfold f_X7_count1 at h
  refine am_jump (pc' := 0) (ls' := [some (.int x0), none, none]) ?_ rfl ⟨rfl, trivial⟩
  refine am_iconst (v := (0 : Int32)) X dX7_count1_0 (by decide) ?_
  refine am_istore_n (ls' := [some (.int x0), some (.int (0 : Int32)), none]) X dX7_count1_1 rfl (by decide)  rfl rfl ?_
  refine am_iconst (v := (0 : Int32)) X dX7_count1_2 (by decide) ?_
  refine am_istore_n (ls' := [some (.int x0), some (.int (0 : Int32)), some (.int (0 : Int32))]) X dX7_count1_3 rfl (by decide)  rfl rfl ?_
  exact am_jump (t_X7_count1_4 hG N N _ _ _ _ _ h K h0 X) rfl ⟨rfl, rfl, rfl, trivial⟩
set_option maxRecDepth 100000 in
set_option maxHeartbeats 4000000 in
theorem t_X7_looks_482 {G : Cx} (hG : am_G G) (N : Nat) (k131 : Int32 → Int32 → Int32 → Int32 → Sg → Option (Sg)) (hk131 : ∀ (x2 : Int32) (x3 : Int32) (x4 : Int32) (x5 : Int32) (σ : Sg) (r : Sg), k131 x2 x3 x4 x5 σ = some r → am_Wp G mX7_looks 1 (am_qv r) 131 [some (.ref 60), none, some (.int x2), some (.int x3), some (.int x4), some (.int x5), none, none, none, none] [] σ) (x2 : Int32) (x3 : Int32) (x4 : Int32) (x5 : Int32) (σ : Sg) (r : Sg) (h : b_X7_looks_482 N k131 x2 x3 x4 x5 σ = some r) : am_Wp G mX7_looks 1 (am_qv r) 482 [some (.ref 60), none, some (.int x2), some (.int x3), some (.int x4), some (.int x5), none, none, none, none] [] σ := by
  intro K h0 X
  unfold b_X7_looks_482 at h
  refine am_iinc (ls' := fun x5_482 => [some (.ref 60), none, some (.int x2), some (.int x3), some (.int x4), some (.int x5_482), none, none, none, none]) X dX7_looks_482 rfl h (by decide) (by decide) rfl (fun _ => rfl) (fun x5_482 h => ?_)
  refine am_goto (tgt := 131) X dX7_looks_485 (by decide) ?_
  exact am_jump (hk131 _ _ _ _ _ _ h K h0 X) rfl ⟨rfl, rfl, rfl, rfl, rfl, trivial⟩
set_option maxRecDepth 100000 in
set_option maxHeartbeats 4000000 in
theorem t_X7_looks_478 {G : Cx} (hG : am_G G) (N : Nat) (k131 : Int32 → Int32 → Int32 → Int32 → Sg → Option (Sg)) (hk131 : ∀ (x2 : Int32) (x3 : Int32) (x4 : Int32) (x5 : Int32) (σ : Sg) (r : Sg), k131 x2 x3 x4 x5 σ = some r → am_Wp G mX7_looks 1 (am_qv r) 131 [some (.ref 60), none, some (.int x2), some (.int x3), some (.int x4), some (.int x5), none, none, none, none] [] σ) (x2 : Int32) (x3 : Int32) (x4 : Int32) (x5 : Int32) (s1 : Int32) (s2 : Int32) (σ : Sg) (r : Sg) (h : b_X7_looks_478 N k131 x2 x3 x4 x5 s1 s2 σ = some r) : am_Wp G mX7_looks 1 (am_qv r) 478 [some (.ref 60), none, some (.int x2), some (.int x3), some (.int x4), some (.int x5), none, none, none, none] [.int s2, .int s1, .ref 60] σ := by
  intro K h0 X
  unfold b_X7_looks_478 at h
  refine am_iadd X dX7_looks_478 ?_
  refine am_putfi X dX7_looks_479 fp_X7_188 rfl rfl ?_
  refine am_tops h (fun σ479 h => ?_)
  exact am_jump (t_X7_looks_482 hG N k131 hk131 _ _ _ _ _ _ h K h0 X) rfl ⟨rfl, rfl, rfl, rfl, rfl, trivial⟩
set_option maxRecDepth 100000 in
set_option maxHeartbeats 4000000 in
theorem t_X7_looks_477 {G : Cx} (hG : am_G G) (N : Nat) (k131 : Int32 → Int32 → Int32 → Int32 → Sg → Option (Sg)) (hk131 : ∀ (x2 : Int32) (x3 : Int32) (x4 : Int32) (x5 : Int32) (σ : Sg) (r : Sg), k131 x2 x3 x4 x5 σ = some r → am_Wp G mX7_looks 1 (am_qv r) 131 [some (.ref 60), none, some (.int x2), some (.int x3), some (.int x4), some (.int x5), none, none, none, none] [] σ) (x2 : Int32) (x3 : Int32) (x4 : Int32) (x5 : Int32) (s1 : Int32) (σ : Sg) (r : Sg) (h : b_X7_looks_477 N k131 x2 x3 x4 x5 s1 σ = some r) : am_Wp G mX7_looks 1 (am_qv r) 477 [some (.ref 60), none, some (.int x2), some (.int x3), some (.int x4), some (.int x5), none, none, none, none] [.int s1, .ref 60] σ := by
  intro K h0 X
  unfold b_X7_looks_477 at h
  refine am_iconst (v := (0 : Int32)) X dX7_looks_477 (by decide) ?_
  exact am_jump (t_X7_looks_478 hG N k131 hk131 _ _ _ _ _ _ _ _ h K h0 X) rfl ⟨rfl, rfl, rfl, rfl, rfl, trivial⟩
set_option maxRecDepth 100000 in
set_option maxHeartbeats 4000000 in
theorem t_X7_looks_446 {G : Cx} (hG : am_G G) (N : Nat) (k131 : Int32 → Int32 → Int32 → Int32 → Sg → Option (Sg)) (hk131 : ∀ (x2 : Int32) (x3 : Int32) (x4 : Int32) (x5 : Int32) (σ : Sg) (r : Sg), k131 x2 x3 x4 x5 σ = some r → am_Wp G mX7_looks 1 (am_qv r) 131 [some (.ref 60), none, some (.int x2), some (.int x3), some (.int x4), some (.int x5), none, none, none, none] [] σ) (x2 : Int32) (x3 : Int32) (x4 : Int32) (x5 : Int32) (x6 : Int32) (x7 : Int32) (s1 : Int32) (s2 : Int32) (σ : Sg) (r : Sg) (h : b_X7_looks_446 N k131 x2 x3 x4 x5 x6 x7 s1 s2 σ = some r) : am_Wp G mX7_looks 1 (am_qv r) 446 [some (.ref 60), none, some (.int x2), some (.int x3), some (.int x4), some (.int x5), some (.int x6), some (.int x7), none, none] [.int s2, .int s1, .ref 60] σ := by
  intro K h0 X
  unfold b_X7_looks_446 at h
  refine am_iadd X dX7_looks_446 ?_
  refine am_putfi X dX7_looks_447 fp_X7_185 rfl rfl ?_
  refine am_tops h (fun σ447 h => ?_)
  refine am_aload_n X dX7_looks_450 rfl rfl ?_
  refine am_dup X dX7_looks_451 rfl ?_
  refine am_getf (v := .int (rg σ447 60 13)) X dX7_looks_452 fl_X7_188 rfl rfl (by decide) ?_
  refine am_iload X dX7_looks_455 rfl ?_
  refine am_if_eq (tgt := 477) X dX7_looks_457 (by decide) (fun c => ?_) (fun c => ?_)
  · have h := if_t h c
    exact am_jump (t_X7_looks_477 hG N k131 hk131 _ _ _ _ _ _ _ h K h0 X) rfl ⟨rfl, rfl, rfl, rfl, rfl, trivial⟩
  · have h := if_f h c
    refine am_iload X dX7_looks_460 rfl ?_
    refine am_sipush (v := (-400 : Int32)) X dX7_looks_462 (by decide) ?_
    refine am_icmp_gt (tgt := 477) X dX7_looks_465 (by decide) (fun c => ?_) (fun c => ?_)
    · have h := if_t h c
      exact am_jump (t_X7_looks_477 hG N k131 hk131 _ _ _ _ _ _ _ h K h0 X) rfl ⟨rfl, rfl, rfl, rfl, rfl, trivial⟩
    · have h := if_f h c
      refine am_sipush (v := (-400 : Int32)) X dX7_looks_468 (by decide) ?_
      refine am_iload X dX7_looks_471 rfl ?_
      refine am_isub X dX7_looks_473 ?_
      refine am_goto (tgt := 478) X dX7_looks_474 (by decide) ?_
      exact am_jump (t_X7_looks_478 hG N k131 hk131 _ _ _ _ _ _ _ _ h K h0 X) rfl ⟨rfl, rfl, rfl, rfl, rfl, trivial⟩
set_option maxRecDepth 100000 in
set_option maxHeartbeats 4000000 in
theorem t_X7_looks_445 {G : Cx} (hG : am_G G) (N : Nat) (k131 : Int32 → Int32 → Int32 → Int32 → Sg → Option (Sg)) (hk131 : ∀ (x2 : Int32) (x3 : Int32) (x4 : Int32) (x5 : Int32) (σ : Sg) (r : Sg), k131 x2 x3 x4 x5 σ = some r → am_Wp G mX7_looks 1 (am_qv r) 131 [some (.ref 60), none, some (.int x2), some (.int x3), some (.int x4), some (.int x5), none, none, none, none] [] σ) (x2 : Int32) (x3 : Int32) (x4 : Int32) (x5 : Int32) (x6 : Int32) (x7 : Int32) (s1 : Int32) (σ : Sg) (r : Sg) (h : b_X7_looks_445 N k131 x2 x3 x4 x5 x6 x7 s1 σ = some r) : am_Wp G mX7_looks 1 (am_qv r) 445 [some (.ref 60), none, some (.int x2), some (.int x3), some (.int x4), some (.int x5), some (.int x6), some (.int x7), none, none] [.int s1, .ref 60] σ := by
  intro K h0 X
  unfold b_X7_looks_445 at h
  refine am_iconst (v := (0 : Int32)) X dX7_looks_445 (by decide) ?_
  exact am_jump (t_X7_looks_446 hG N k131 hk131 _ _ _ _ _ _ _ _ _ _ h K h0 X) rfl ⟨rfl, rfl, rfl, rfl, rfl, rfl, rfl, trivial⟩
set_option maxRecDepth 100000 in
set_option maxHeartbeats 4000000 in
theorem t_X7_looks_406 {G : Cx} (hG : am_G G) (N : Nat) (k131 : Int32 → Int32 → Int32 → Int32 → Sg → Option (Sg)) (hk131 : ∀ (x2 : Int32) (x3 : Int32) (x4 : Int32) (x5 : Int32) (σ : Sg) (r : Sg), k131 x2 x3 x4 x5 σ = some r → am_Wp G mX7_looks 1 (am_qv r) 131 [some (.ref 60), none, some (.int x2), some (.int x3), some (.int x4), some (.int x5), none, none, none, none] [] σ) (x2 : Int32) (x3 : Int32) (x4 : Int32) (x5 : Int32) (x6 : Int32) (x7 : Int32) (s1 : Int32) (s2 : Int32) (σ : Sg) (r : Sg) (h : b_X7_looks_406 N k131 x2 x3 x4 x5 x6 x7 s1 s2 σ = some r) : am_Wp G mX7_looks 1 (am_qv r) 406 [some (.ref 60), none, some (.int x2), some (.int x3), some (.int x4), some (.int x5), some (.int x6), some (.int x7), none, none] [.int s2, .int s1, .ref 60] σ := by
  intro K h0 X
  unfold b_X7_looks_406 at h
  refine am_iadd X dX7_looks_406 ?_
  refine am_putfi X dX7_looks_407 fp_X7_182 rfl rfl ?_
  refine am_tops h (fun σ407 h => ?_)
  refine am_aload_n X dX7_looks_410 rfl rfl ?_
  refine am_dup X dX7_looks_411 rfl ?_
  refine am_getf (v := .int (rg σ407 60 12)) X dX7_looks_412 fl_X7_185 rfl rfl (by decide) ?_
  refine am_iload X dX7_looks_415 rfl ?_
  refine am_if_eq (tgt := 445) X dX7_looks_417 (by decide) (fun c => ?_) (fun c => ?_)
  · have h := if_t h c
    exact am_jump (t_X7_looks_445 hG N k131 hk131 _ _ _ _ _ _ _ _ _ h K h0 X) rfl ⟨rfl, rfl, rfl, rfl, rfl, rfl, rfl, trivial⟩
  · have h := if_f h c
    refine am_iload X dX7_looks_420 rfl ?_
    refine am_sipush (v := (-200 : Int32)) X dX7_looks_422 (by decide) ?_
    refine am_icmp_gt (tgt := 445) X dX7_looks_425 (by decide) (fun c => ?_) (fun c => ?_)
    · have h := if_t h c
      exact am_jump (t_X7_looks_445 hG N k131 hk131 _ _ _ _ _ _ _ _ _ h K h0 X) rfl ⟨rfl, rfl, rfl, rfl, rfl, rfl, rfl, trivial⟩
    · have h := if_f h c
      refine am_iload X dX7_looks_428 rfl ?_
      refine am_sipush (v := (-400 : Int32)) X dX7_looks_430 (by decide) ?_
      refine am_icmp_le (tgt := 445) X dX7_looks_433 (by decide) (fun c => ?_) (fun c => ?_)
      · have h := if_t h c
        exact am_jump (t_X7_looks_445 hG N k131 hk131 _ _ _ _ _ _ _ _ _ h K h0 X) rfl ⟨rfl, rfl, rfl, rfl, rfl, rfl, rfl, trivial⟩
      · have h := if_f h c
        refine am_sipush (v := (-200 : Int32)) X dX7_looks_436 (by decide) ?_
        refine am_iload X dX7_looks_439 rfl ?_
        refine am_isub X dX7_looks_441 ?_
        refine am_goto (tgt := 446) X dX7_looks_442 (by decide) ?_
        exact am_jump (t_X7_looks_446 hG N k131 hk131 _ _ _ _ _ _ _ _ _ _ h K h0 X) rfl ⟨rfl, rfl, rfl, rfl, rfl, rfl, rfl, trivial⟩
set_option maxRecDepth 100000 in
set_option maxHeartbeats 4000000 in
theorem t_X7_looks_405 {G : Cx} (hG : am_G G) (N : Nat) (k131 : Int32 → Int32 → Int32 → Int32 → Sg → Option (Sg)) (hk131 : ∀ (x2 : Int32) (x3 : Int32) (x4 : Int32) (x5 : Int32) (σ : Sg) (r : Sg), k131 x2 x3 x4 x5 σ = some r → am_Wp G mX7_looks 1 (am_qv r) 131 [some (.ref 60), none, some (.int x2), some (.int x3), some (.int x4), some (.int x5), none, none, none, none] [] σ) (x2 : Int32) (x3 : Int32) (x4 : Int32) (x5 : Int32) (x6 : Int32) (x7 : Int32) (s1 : Int32) (σ : Sg) (r : Sg) (h : b_X7_looks_405 N k131 x2 x3 x4 x5 x6 x7 s1 σ = some r) : am_Wp G mX7_looks 1 (am_qv r) 405 [some (.ref 60), none, some (.int x2), some (.int x3), some (.int x4), some (.int x5), some (.int x6), some (.int x7), none, none] [.int s1, .ref 60] σ := by
  intro K h0 X
  unfold b_X7_looks_405 at h
  refine am_iconst (v := (0 : Int32)) X dX7_looks_405 (by decide) ?_
  exact am_jump (t_X7_looks_406 hG N k131 hk131 _ _ _ _ _ _ _ _ _ _ h K h0 X) rfl ⟨rfl, rfl, rfl, rfl, rfl, rfl, rfl, trivial⟩
set_option maxRecDepth 100000 in
set_option maxHeartbeats 4000000 in
theorem t_X7_looks_364 {G : Cx} (hG : am_G G) (N : Nat) (k131 : Int32 → Int32 → Int32 → Int32 → Sg → Option (Sg)) (hk131 : ∀ (x2 : Int32) (x3 : Int32) (x4 : Int32) (x5 : Int32) (σ : Sg) (r : Sg), k131 x2 x3 x4 x5 σ = some r → am_Wp G mX7_looks 1 (am_qv r) 131 [some (.ref 60), none, some (.int x2), some (.int x3), some (.int x4), some (.int x5), none, none, none, none] [] σ) (x2 : Int32) (x3 : Int32) (x4 : Int32) (x5 : Int32) (s1 : Int32) (s2 : Int32) (σ : Sg) (r : Sg) (h : b_X7_looks_364 N k131 x2 x3 x4 x5 s1 s2 σ = some r) : am_Wp G mX7_looks 1 (am_qv r) 364 [some (.ref 60), none, some (.int x2), some (.int x3), some (.int x4), some (.int x5), none, none, none, none] [.int s2, .int s1, .ref 64] σ := by
  intro K h0 X
  unfold b_X7_looks_364 at h
  obtain ⟨g, h⟩ := gd_some h
  refine am_zast X dX7_looks_364 rfl g ?_
  refine am_tops h (fun σ364 h => ?_)
  refine am_goto (tgt := 482) X dX7_looks_365 (by decide) ?_
  exact am_jump (t_X7_looks_482 hG N k131 hk131 _ _ _ _ _ _ h K h0 X) rfl ⟨rfl, rfl, rfl, rfl, rfl, trivial⟩
set_option maxRecDepth 100000 in
set_option maxHeartbeats 4000000 in
theorem t_X7_looks_359 {G : Cx} (hG : am_G G) (N : Nat) (k131 : Int32 → Int32 → Int32 → Int32 → Sg → Option (Sg)) (hk131 : ∀ (x2 : Int32) (x3 : Int32) (x4 : Int32) (x5 : Int32) (σ : Sg) (r : Sg), k131 x2 x3 x4 x5 σ = some r → am_Wp G mX7_looks 1 (am_qv r) 131 [some (.ref 60), none, some (.int x2), some (.int x3), some (.int x4), some (.int x5), none, none, none, none] [] σ) (x2 : Int32) (x3 : Int32) (x4 : Int32) (x5 : Int32) (s1 : Int32) (σ : Sg) (r : Sg) (h : b_X7_looks_359 N k131 x2 x3 x4 x5 s1 σ = some r) : am_Wp G mX7_looks 1 (am_qv r) 359 [some (.ref 60), none, some (.int x2), some (.int x3), some (.int x4), some (.int x5), none, none, none, none] [.int s1, .ref 64] σ := by
  intro K h0 X
  unfold b_X7_looks_359 at h
  refine am_iconst (v := (1 : Int32)) X dX7_looks_359 (by decide) ?_
  refine am_goto (tgt := 364) X dX7_looks_360 (by decide) ?_
  exact am_jump (t_X7_looks_364 hG N k131 hk131 _ _ _ _ _ _ _ _ h K h0 X) rfl ⟨rfl, rfl, rfl, rfl, rfl, trivial⟩
set_option maxRecDepth 100000 in
set_option maxHeartbeats 4000000 in
theorem t_X7_looks_333 {G : Cx} (hG : am_G G) (N : Nat) (k131 : Int32 → Int32 → Int32 → Int32 → Sg → Option (Sg)) (hk131 : ∀ (x2 : Int32) (x3 : Int32) (x4 : Int32) (x5 : Int32) (σ : Sg) (r : Sg), k131 x2 x3 x4 x5 σ = some r → am_Wp G mX7_looks 1 (am_qv r) 131 [some (.ref 60), none, some (.int x2), some (.int x3), some (.int x4), some (.int x5), none, none, none, none] [] σ) (x2 : Int32) (x3 : Int32) (x4 : Int32) (x5 : Int32) (s1 : Int32) (σ : Sg) (r : Sg) (h : b_X7_looks_333 N k131 x2 x3 x4 x5 s1 σ = some r) : am_Wp G mX7_looks 1 (am_qv r) 333 [some (.ref 60), none, some (.int x2), some (.int x3), some (.int x4), some (.int x5), none, none, none, none] [.int s1, .ref 64] σ := by
  intro K h0 X
  unfold b_X7_looks_333 at h
  refine am_iconst (v := (0 : Int32)) X dX7_looks_333 (by decide) ?_
  refine am_goto (tgt := 364) X dX7_looks_334 (by decide) ?_
  exact am_jump (t_X7_looks_364 hG N k131 hk131 _ _ _ _ _ _ _ _ h K h0 X) rfl ⟨rfl, rfl, rfl, rfl, rfl, trivial⟩
set_option maxRecDepth 100000 in
set_option maxHeartbeats 4000000 in
theorem t_X7_looks_278 {G : Cx} (hG : am_G G) (N : Nat) (k131 : Int32 → Int32 → Int32 → Int32 → Sg → Option (Sg)) (hk131 : ∀ (x2 : Int32) (x3 : Int32) (x4 : Int32) (x5 : Int32) (σ : Sg) (r : Sg), k131 x2 x3 x4 x5 σ = some r → am_Wp G mX7_looks 1 (am_qv r) 131 [some (.ref 60), none, some (.int x2), some (.int x3), some (.int x4), some (.int x5), none, none, none, none] [] σ) (x2 : Int32) (x3 : Int32) (x4 : Int32) (x5 : Int32) (s1 : Int32) (s2 : Int32) (σ : Sg) (r : Sg) (h : b_X7_looks_278 N k131 x2 x3 x4 x5 s1 s2 σ = some r) : am_Wp G mX7_looks 1 (am_qv r) 278 [some (.ref 60), none, some (.int x2), some (.int x3), some (.int x4), some (.int x5), none, none, none, none] [.int s2, .int s1, .ref 64] σ := by
  intro K h0 X
  unfold b_X7_looks_278 at h
  obtain ⟨g, h⟩ := gd_some h
  refine am_zast X dX7_looks_278 rfl g ?_
  refine am_tops h (fun σ278 h => ?_)
  refine am_goto (tgt := 482) X dX7_looks_279 (by decide) ?_
  exact am_jump (t_X7_looks_482 hG N k131 hk131 _ _ _ _ _ _ h K h0 X) rfl ⟨rfl, rfl, rfl, rfl, rfl, trivial⟩
set_option maxRecDepth 100000 in
set_option maxHeartbeats 4000000 in
theorem t_X7_looks_240 {G : Cx} (hG : am_G G) (N : Nat) (k131 : Int32 → Int32 → Int32 → Int32 → Sg → Option (Sg)) (hk131 : ∀ (x2 : Int32) (x3 : Int32) (x4 : Int32) (x5 : Int32) (σ : Sg) (r : Sg), k131 x2 x3 x4 x5 σ = some r → am_Wp G mX7_looks 1 (am_qv r) 131 [some (.ref 60), none, some (.int x2), some (.int x3), some (.int x4), some (.int x5), none, none, none, none] [] σ) (x2 : Int32) (x3 : Int32) (x4 : Int32) (x5 : Int32) (s1 : Int32) (s2 : Int32) (σ : Sg) (r : Sg) (h : b_X7_looks_240 N k131 x2 x3 x4 x5 s1 s2 σ = some r) : am_Wp G mX7_looks 1 (am_qv r) 240 [some (.ref 60), none, some (.int x2), some (.int x3), some (.int x4), some (.int x5), none, none, none, none] [.int s2, .int s1, .ref 64] σ := by
  intro K h0 X
  unfold b_X7_looks_240 at h
  obtain ⟨g, h⟩ := gd_some h
  refine am_zast X dX7_looks_240 rfl g ?_
  refine am_tops h (fun σ240 h => ?_)
  refine am_iinc (ls' := fun x4_241 => [some (.ref 60), none, some (.int x2), some (.int x3), some (.int x4_241), some (.int x5), none, none, none, none]) X dX7_looks_241 rfl h (by decide) (by decide) rfl (fun _ => rfl) (fun x4_241 h => ?_)
  refine am_goto (tgt := 482) X dX7_looks_244 (by decide) ?_
  exact am_jump (t_X7_looks_482 hG N k131 hk131 _ _ _ _ _ _ h K h0 X) rfl ⟨rfl, rfl, rfl, rfl, rfl, trivial⟩
set_option maxRecDepth 100000 in
set_option maxHeartbeats 4000000 in
theorem t_X7_looks_131b {G : Cx} (hG : am_G G) (N : Nat) (k131 : Int32 → Int32 → Int32 → Int32 → Sg → Option (Sg)) (hk131 : ∀ (x2 : Int32) (x3 : Int32) (x4 : Int32) (x5 : Int32) (σ : Sg) (r : Sg), k131 x2 x3 x4 x5 σ = some r → am_Wp G mX7_looks 1 (am_qv r) 131 [some (.ref 60), none, some (.int x2), some (.int x3), some (.int x4), some (.int x5), none, none, none, none] [] σ) (x2 : Int32) (x3 : Int32) (x4 : Int32) (x5 : Int32) (σ : Sg) (r : Sg) (h : b_X7_looks_131b N k131 x2 x3 x4 x5 σ = some r) : am_Wp G mX7_looks 1 (am_qv r) 131 [some (.ref 60), none, some (.int x2), some (.int x3), some (.int x4), some (.int x5), none, none, none, none] [] σ := by
  intro K h0 X
  unfold b_X7_looks_131b at h
  refine am_iload X dX7_looks_131 rfl ?_
  refine am_iload_n X dX7_looks_133 rfl rfl ?_
  refine am_iload_n X dX7_looks_134 rfl rfl ?_
  refine am_iadd X dX7_looks_135 ?_
  refine am_icmp_ge (tgt := 488) X dX7_looks_136 (by decide) (fun c => ?_) (fun c => ?_)
  · have h := if_t h c
    obtain rfl := Option.some.inj h
    exact am_vret X h0 dX7_looks_488 rfl ⟨rfl, rfl⟩
  · have h := if_f h c
    refine am_aload_n X dX7_looks_139 rfl rfl ?_
    refine am_getf (v := .ref 61) X dX7_looks_140 fl_X7_9 rfl rfl (by decide) ?_
    refine am_iload X dX7_looks_143 rfl ?_
    obtain ⟨g, h⟩ := gd_some h
    refine am_iald X dX7_looks_145 rfl g ?_
    refine am_topi h (fun x6_146 h => ?_)
    refine am_istore (ls' := [some (.ref 60), none, some (.int x2), some (.int x3), some (.int x4), some (.int x5), some (.int x6_146), none, none, none]) X dX7_looks_146 (by decide)  rfl rfl ?_
    refine am_iload X dX7_looks_148 rfl ?_
    refine am_if_lt (tgt := 247) X dX7_looks_150 (by decide) (fun c => ?_) (fun c => ?_)
    · have h := if_t h c
      refine am_iload X dX7_looks_247 rfl ?_
      refine am_iconst (v := (-1 : Int32)) X dX7_looks_249 (by decide) ?_
      refine am_icmp_ne (tgt := 282) X dX7_looks_250 (by decide) (fun c => ?_) (fun c => ?_)
      · have h := if_f h c
        refine am_iload X dX7_looks_282 rfl ?_
        refine am_bipush (v := (-10 : Int32)) X dX7_looks_284 (by decide) ?_
        refine am_icmp_le (tgt := 368) X dX7_looks_286 (by decide) (fun c => ?_) (fun c => ?_)
        · have h := if_t h c
          refine am_iconst (v := (0 : Int32)) X dX7_looks_368 (by decide) ?_
          refine am_istore (ls' := [some (.ref 60), none, some (.int x2), some (.int x3), some (.int (0 : Int32)), some (.int x5), some (.int x6_146), none, none, none]) X dX7_looks_369 (by decide)  rfl rfl ?_
          refine am_aload_n X dX7_looks_371 rfl rfl ?_
          refine am_getf (v := .ref 64) X dX7_looks_372 fl_X7_21 rfl rfl (by decide) ?_
          refine am_iconst (v := (0 : Int32)) X dX7_looks_375 (by decide) ?_
          obtain ⟨g, h⟩ := gd_some h
          refine am_zald X dX7_looks_376 rfl g ?_
          refine am_topi h (fun x7_377 h => ?_)
          refine am_istore (ls' := [some (.ref 60), none, some (.int x2), some (.int x3), some (.int (0 : Int32)), some (.int x5), some (.int x6_146), some (.int x7_377), none, none]) X dX7_looks_377 (by decide)  rfl rfl ?_
          refine am_aload_n X dX7_looks_379 rfl rfl ?_
          refine am_dup X dX7_looks_380 rfl ?_
          refine am_getf (v := .int (rg σ 60 11)) X dX7_looks_381 fl_X7_182 rfl rfl (by decide) ?_
          refine am_iload X dX7_looks_384 rfl ?_
          refine am_if_eq (tgt := 405) X dX7_looks_386 (by decide) (fun c => ?_) (fun c => ?_)
          · have h := if_t h c
            exact am_jump (t_X7_looks_405 hG N k131 hk131 _ _ _ _ _ _ _ _ _ h K h0 X) rfl ⟨rfl, rfl, rfl, rfl, rfl, rfl, rfl, trivial⟩
          · have h := if_f h c
            refine am_iload X dX7_looks_389 rfl ?_
            refine am_sipush (v := (-200 : Int32)) X dX7_looks_391 (by decide) ?_
            refine am_icmp_le (tgt := 405) X dX7_looks_394 (by decide) (fun c => ?_) (fun c => ?_)
            · have h := if_t h c
              exact am_jump (t_X7_looks_405 hG N k131 hk131 _ _ _ _ _ _ _ _ _ h K h0 X) rfl ⟨rfl, rfl, rfl, rfl, rfl, rfl, rfl, trivial⟩
            · have h := if_f h c
              refine am_bipush (v := (-10 : Int32)) X dX7_looks_397 (by decide) ?_
              refine am_iload X dX7_looks_399 rfl ?_
              refine am_isub X dX7_looks_401 ?_
              refine am_goto (tgt := 406) X dX7_looks_402 (by decide) ?_
              exact am_jump (t_X7_looks_406 hG N k131 hk131 _ _ _ _ _ _ _ _ _ _ h K h0 X) rfl ⟨rfl, rfl, rfl, rfl, rfl, rfl, rfl, trivial⟩
        · have h := if_f h c
          refine am_iinc (ls' := fun x4_289 => [some (.ref 60), none, some (.int x2), some (.int x3), some (.int x4_289), some (.int x5), some (.int x6_146), none, none, none]) X dX7_looks_289 rfl h (by decide) (by decide) rfl (fun _ => rfl) (fun x4_289 h => ?_)
          refine am_aload_n X dX7_looks_292 rfl rfl ?_
          refine am_getf (v := .ref 64) X dX7_looks_293 fl_X7_21 rfl rfl (by decide) ?_
          refine am_iload X dX7_looks_296 rfl ?_
          refine am_iconst (v := (1 : Int32)) X dX7_looks_298 (by decide) ?_
          refine am_isub X dX7_looks_299 ?_
          refine am_iload X dX7_looks_300 rfl ?_
          refine am_bipush (v := (-2 : Int32)) X dX7_looks_302 (by decide) ?_
          refine am_icmp_ne (tgt := 337) X dX7_looks_304 (by decide) (fun c => ?_) (fun c => ?_)
          · have h := if_f h c
            refine am_aload_n X dX7_looks_337 rfl rfl ?_
            refine am_getf (v := .ref 64) X dX7_looks_338 fl_X7_21 rfl rfl (by decide) ?_
            refine am_iload X dX7_looks_341 rfl ?_
            refine am_iconst (v := (1 : Int32)) X dX7_looks_343 (by decide) ?_
            refine am_isub X dX7_looks_344 ?_
            obtain ⟨g, h⟩ := gd_some h
            refine am_zald X dX7_looks_345 rfl g ?_
            refine am_if_ne (tgt := 359) X dX7_looks_346 (by decide) (fun c => ?_) (fun c => ?_)
            · have h := if_f h c
              exact am_jump (t_X7_looks_359 hG N k131 hk131 _ _ _ _ _ _ _ h K h0 X) rfl ⟨rfl, rfl, rfl, rfl, rfl, trivial⟩
            · have h := if_t h c
              refine am_aload_n X dX7_looks_349 rfl rfl ?_
              refine am_getf (v := .ref 64) X dX7_looks_350 fl_X7_21 rfl rfl (by decide) ?_
              refine am_iload X dX7_looks_353 rfl ?_
              obtain ⟨g, h⟩ := gd_some h
              refine am_zald X dX7_looks_355 rfl g ?_
              refine am_if_eq (tgt := 363) X dX7_looks_356 (by decide) (fun c => ?_) (fun c => ?_)
              · have h := if_t h c
                refine am_iconst (v := (0 : Int32)) X dX7_looks_363 (by decide) ?_
                exact am_jump (t_X7_looks_364 hG N k131 hk131 _ _ _ _ _ _ _ _ h K h0 X) rfl ⟨rfl, rfl, rfl, rfl, rfl, trivial⟩
              · have h := if_f h c
                exact am_jump (t_X7_looks_359 hG N k131 hk131 _ _ _ _ _ _ _ h K h0 X) rfl ⟨rfl, rfl, rfl, rfl, rfl, trivial⟩
          · have h := if_t h c
            refine am_aload_n X dX7_looks_307 rfl rfl ?_
            refine am_getf (v := .ref 64) X dX7_looks_308 fl_X7_21 rfl rfl (by decide) ?_
            refine am_iload X dX7_looks_311 rfl ?_
            refine am_iconst (v := (1 : Int32)) X dX7_looks_313 (by decide) ?_
            refine am_isub X dX7_looks_314 ?_
            obtain ⟨g, h⟩ := gd_some h
            refine am_zald X dX7_looks_315 rfl g ?_
            refine am_if_eq (tgt := 333) X dX7_looks_316 (by decide) (fun c => ?_) (fun c => ?_)
            · have h := if_t h c
              exact am_jump (t_X7_looks_333 hG N k131 hk131 _ _ _ _ _ _ _ h K h0 X) rfl ⟨rfl, rfl, rfl, rfl, rfl, trivial⟩
            · have h := if_f h c
              refine am_aload_n X dX7_looks_319 rfl rfl ?_
              refine am_getf (v := .ref 64) X dX7_looks_320 fl_X7_21 rfl rfl (by decide) ?_
              refine am_iload X dX7_looks_323 rfl ?_
              obtain ⟨g, h⟩ := gd_some h
              refine am_zald X dX7_looks_325 rfl g ?_
              refine am_if_eq (tgt := 333) X dX7_looks_326 (by decide) (fun c => ?_) (fun c => ?_)
              · have h := if_t h c
                exact am_jump (t_X7_looks_333 hG N k131 hk131 _ _ _ _ _ _ _ h K h0 X) rfl ⟨rfl, rfl, rfl, rfl, rfl, trivial⟩
              · have h := if_f h c
                refine am_iconst (v := (1 : Int32)) X dX7_looks_329 (by decide) ?_
                refine am_goto (tgt := 364) X dX7_looks_330 (by decide) ?_
                exact am_jump (t_X7_looks_364 hG N k131 hk131 _ _ _ _ _ _ _ _ h K h0 X) rfl ⟨rfl, rfl, rfl, rfl, rfl, trivial⟩
      · have h := if_t h c
        refine am_aload_n X dX7_looks_253 rfl rfl ?_
        refine am_getf (v := .ref 64) X dX7_looks_254 fl_X7_21 rfl rfl (by decide) ?_
        refine am_iload X dX7_looks_257 rfl ?_
        refine am_iconst (v := (1 : Int32)) X dX7_looks_259 (by decide) ?_
        refine am_isub X dX7_looks_260 ?_
        refine am_aload_n X dX7_looks_261 rfl rfl ?_
        refine am_getf (v := .ref 64) X dX7_looks_262 fl_X7_21 rfl rfl (by decide) ?_
        refine am_iload X dX7_looks_265 rfl ?_
        refine am_iconst (v := (1 : Int32)) X dX7_looks_267 (by decide) ?_
        refine am_isub X dX7_looks_268 ?_
        obtain ⟨g, h⟩ := gd_some h
        refine am_zald X dX7_looks_269 rfl g ?_
        refine am_if_ne (tgt := 277) X dX7_looks_270 (by decide) (fun c => ?_) (fun c => ?_)
        · have h := if_f h c
          refine am_iconst (v := (0 : Int32)) X dX7_looks_277 (by decide) ?_
          exact am_jump (t_X7_looks_278 hG N k131 hk131 _ _ _ _ _ _ _ _ h K h0 X) rfl ⟨rfl, rfl, rfl, rfl, rfl, trivial⟩
        · have h := if_t h c
          refine am_iconst (v := (1 : Int32)) X dX7_looks_273 (by decide) ?_
          refine am_goto (tgt := 278) X dX7_looks_274 (by decide) ?_
          exact am_jump (t_X7_looks_278 hG N k131 hk131 _ _ _ _ _ _ _ _ h K h0 X) rfl ⟨rfl, rfl, rfl, rfl, rfl, trivial⟩
    · have h := if_f h c
      refine am_aload_n X dX7_looks_153 rfl rfl ?_
      refine am_getf (v := .ref 63) X dX7_looks_154 fl_X7_18 rfl rfl (by decide) ?_
      refine am_iload X dX7_looks_157 rfl ?_
      refine am_bipush (v := (8 : Int32)) X dX7_looks_159 (by decide) ?_
      refine am_irem X dX7_looks_161 (by decide) ?_
      obtain ⟨g, h⟩ := gd_some h
      refine am_iald X dX7_looks_162 rfl g ?_
      refine am_topi h (fun x7_163 h => ?_)
      refine am_istore (ls' := [some (.ref 60), none, some (.int x2), some (.int x3), some (.int x4), some (.int x5), some (.int x6_146), some (.int x7_163), none, none]) X dX7_looks_163 (by decide)  rfl rfl ?_
      refine am_iload X dX7_looks_165 rfl ?_
      refine am_bipush (v := (8 : Int32)) X dX7_looks_167 (by decide) ?_
      refine am_idiv X dX7_looks_169 (by decide) ?_
      refine am_iconst (v := (4 : Int32)) X dX7_looks_170 (by decide) ?_
      refine am_irem X dX7_looks_171 (by decide) ?_
      refine am_topi h (fun x8_172 h => ?_)
      refine am_istore (ls' := [some (.ref 60), none, some (.int x2), some (.int x3), some (.int x4), some (.int x5), some (.int x6_146), some (.int x7_163), some (.int x8_172), none]) X dX7_looks_172 (by decide)  rfl rfl ?_
      refine am_iload X dX7_looks_174 rfl ?_
      refine am_bipush (v := (32 : Int32)) X dX7_looks_176 (by decide) ?_
      refine am_idiv X dX7_looks_178 (by decide) ?_
      refine am_topi h (fun x9_179 h => ?_)
      refine am_istore (ls' := [some (.ref 60), none, some (.int x2), some (.int x3), some (.int x4), some (.int x5), some (.int x6_146), some (.int x7_163), some (.int x8_172), some (.int x9_179)]) X dX7_looks_179 (by decide)  rfl rfl ?_
      refine am_aload_n X dX7_looks_181 rfl rfl ?_
      refine am_getf (v := .ref 64) X dX7_looks_182 fl_X7_21 rfl rfl (by decide) ?_
      refine am_iload X dX7_looks_185 rfl ?_
      refine am_iload X dX7_looks_187 rfl ?_
      refine am_if_ne (tgt := 207) X dX7_looks_189 (by decide) (fun c => ?_) (fun c => ?_)
      · have h := if_f h c
        refine am_iload X dX7_looks_207 rfl ?_
        refine am_iconst (v := (1 : Int32)) X dX7_looks_209 (by decide) ?_
        refine am_icmp_ne (tgt := 228) X dX7_looks_210 (by decide) (fun c => ?_) (fun c => ?_)
        · have h := if_f h c
          refine am_iload X dX7_looks_228 rfl ?_
          refine am_iload X dX7_looks_230 rfl ?_
          refine am_icmp_le (tgt := 239) X dX7_looks_232 (by decide) (fun c => ?_) (fun c => ?_)
          · have h := if_t h c
            refine am_iconst (v := (0 : Int32)) X dX7_looks_239 (by decide) ?_
            exact am_jump (t_X7_looks_240 hG N k131 hk131 _ _ _ _ _ _ _ _ h K h0 X) rfl ⟨rfl, rfl, rfl, rfl, rfl, trivial⟩
          · have h := if_f h c
            refine am_iconst (v := (1 : Int32)) X dX7_looks_235 (by decide) ?_
            refine am_goto (tgt := 240) X dX7_looks_236 (by decide) ?_
            exact am_jump (t_X7_looks_240 hG N k131 hk131 _ _ _ _ _ _ _ _ h K h0 X) rfl ⟨rfl, rfl, rfl, rfl, rfl, trivial⟩
        · have h := if_t h c
          refine am_iload X dX7_looks_213 rfl ?_
          refine am_iload X dX7_looks_215 rfl ?_
          refine am_icmp_ne (tgt := 224) X dX7_looks_217 (by decide) (fun c => ?_) (fun c => ?_)
          · have h := if_f h c
            refine am_iconst (v := (0 : Int32)) X dX7_looks_224 (by decide) ?_
            refine am_goto (tgt := 240) X dX7_looks_225 (by decide) ?_
            exact am_jump (t_X7_looks_240 hG N k131 hk131 _ _ _ _ _ _ _ _ h K h0 X) rfl ⟨rfl, rfl, rfl, rfl, rfl, trivial⟩
          · have h := if_t h c
            refine am_iconst (v := (1 : Int32)) X dX7_looks_220 (by decide) ?_
            refine am_goto (tgt := 240) X dX7_looks_221 (by decide) ?_
            exact am_jump (t_X7_looks_240 hG N k131 hk131 _ _ _ _ _ _ _ _ h K h0 X) rfl ⟨rfl, rfl, rfl, rfl, rfl, trivial⟩
      · have h := if_t h c
        refine am_iload X dX7_looks_192 rfl ?_
        refine am_iload X dX7_looks_194 rfl ?_
        refine am_icmp_ge (tgt := 203) X dX7_looks_196 (by decide) (fun c => ?_) (fun c => ?_)
        · have h := if_t h c
          refine am_iconst (v := (0 : Int32)) X dX7_looks_203 (by decide) ?_
          refine am_goto (tgt := 240) X dX7_looks_204 (by decide) ?_
          exact am_jump (t_X7_looks_240 hG N k131 hk131 _ _ _ _ _ _ _ _ h K h0 X) rfl ⟨rfl, rfl, rfl, rfl, rfl, trivial⟩
        · have h := if_f h c
          refine am_iconst (v := (1 : Int32)) X dX7_looks_199 (by decide) ?_
          refine am_goto (tgt := 240) X dX7_looks_200 (by decide) ?_
          exact am_jump (t_X7_looks_240 hG N k131 hk131 _ _ _ _ _ _ _ _ h K h0 X) rfl ⟨rfl, rfl, rfl, rfl, rfl, trivial⟩
set_option maxRecDepth 100000 in
set_option maxHeartbeats 4000000 in
theorem t_X7_looks_131 {G : Cx} (hG : am_G G) (N : Nat) : ∀ (n : Nat) (x2 : Int32) (x3 : Int32) (x4 : Int32) (x5 : Int32) (σ : Sg) (r : Sg), b_X7_looks_131 N n x2 x3 x4 x5 σ = some r → am_Wp G mX7_looks 1 (am_qv r) 131 [some (.ref 60), none, some (.int x2), some (.int x3), some (.int x4), some (.int x5), none, none, none, none] [] σ := by
  intro n
  induction n with
  | zero => intro x2 x3 x4 x5 σ r h; cases h
  | succ n ih => intro x2 x3 x4 x5 σ r h; exact t_X7_looks_131b hG N (b_X7_looks_131 N n) ih x2 x3 x4 x5 σ r h
set_option maxRecDepth 100000 in
set_option maxHeartbeats 4000000 in
theorem t_X7_looks_109 {G : Cx} (hG : am_G G) (N : Nat) (s0 : Int32) (σ : Sg) (r : Sg) (h : b_X7_looks_109 N s0 σ = some r) : am_Wp G mX7_looks 1 (am_qv r) 109 [some (.ref 60), none, none, none, none, none, none, none, none, none] [.int s0] σ := by
  intro K h0 X
  unfold b_X7_looks_109 at h
  refine am_istore_n (ls' := [some (.ref 60), none, some (.int s0), none, none, none, none, none, none, none]) X dX7_looks_109 rfl (by decide)  rfl rfl ?_
  refine am_sipush (v := (206 : Int32)) X dX7_looks_110 (by decide) ?_
  refine am_sipush (v := (140 : Int32)) X dX7_looks_113 (by decide) ?_
  refine am_aload_n X dX7_looks_116 rfl rfl ?_
  refine am_getf (v := .ref 61) X dX7_looks_117 fl_X7_9 rfl rfl (by decide) ?_
  refine am_iconst (v := (4 : Int32)) X dX7_looks_120 (by decide) ?_
  obtain ⟨g, h⟩ := gd_some h
  refine am_iald X dX7_looks_121 rfl g ?_
  refine am_imul X dX7_looks_122 ?_
  refine am_iadd X dX7_looks_123 ?_
  refine am_topi h (fun x3_124 h => ?_)
  refine am_istore_n (ls' := [some (.ref 60), none, some (.int s0), some (.int x3_124), none, none, none, none, none, none]) X dX7_looks_124 rfl (by decide)  rfl rfl ?_
  refine am_iconst (v := (0 : Int32)) X dX7_looks_125 (by decide) ?_
  refine am_istore (ls' := [some (.ref 60), none, some (.int s0), some (.int x3_124), some (.int (0 : Int32)), none, none, none, none, none]) X dX7_looks_126 (by decide)  rfl rfl ?_
  refine am_iload_n X dX7_looks_128 rfl rfl ?_
  refine am_istore (ls' := [some (.ref 60), none, some (.int s0), some (.int x3_124), some (.int (0 : Int32)), some (.int x3_124), none, none, none, none]) X dX7_looks_129 (by decide)  rfl rfl ?_
  exact am_jump (t_X7_looks_131 hG N N _ _ _ _ _ _ h K h0 X) rfl ⟨rfl, rfl, rfl, rfl, rfl, trivial⟩
set_option maxRecDepth 100000 in
set_option maxHeartbeats 4000000 in
theorem ct_X7_looks {G : Cx} (hG : am_G G) (N : Nat) (x1 : Int32) (σ : Sg) (r : Sg) (h : f_X7_looks N x1 σ = some r) : am_Ct G 2 yX7_looks mX7_looks [.ref 60, .int x1] σ (am_qv r) := by
  refine am_enter hG rfl rfl (Nat.le_of_ble_eq_true rfl) ?_
  intro K h0 X
  unfold f_X7_looks at h
  refine am_jump (pc' := 0) (ls' := [some (.ref 60), some (.int x1), none, none, none, none, none, none, none, none]) ?_ rfl ⟨rfl, rfl, trivial⟩
  refine am_aload_n X dX7_looks_0 rfl rfl ?_
  refine am_getf (v := .ref 63) X dX7_looks_1 fl_X7_18 rfl rfl (by decide) ?_
  refine am_iconst (v := (0 : Int32)) X dX7_looks_4 (by decide) ?_
  refine am_iload_n X dX7_looks_5 rfl rfl ?_
  obtain ⟨g, h⟩ := gd_some h
  refine am_iast X dX7_looks_6 rfl g ?_
  refine am_tops h (fun σ6 h => ?_)
  refine am_aload_n X dX7_looks_7 rfl rfl ?_
  refine am_getf (v := .ref 63) X dX7_looks_8 fl_X7_18 rfl rfl (by decide) ?_
  refine am_iconst (v := (1 : Int32)) X dX7_looks_11 (by decide) ?_
  refine am_aload_n X dX7_looks_12 rfl rfl ?_
  refine am_getf (v := .ref 61) X dX7_looks_13 fl_X7_9 rfl rfl (by decide) ?_
  refine am_bipush (v := (10 : Int32)) X dX7_looks_16 (by decide) ?_
  refine am_iload_n X dX7_looks_18 rfl rfl ?_
  refine am_iadd X dX7_looks_19 ?_
  obtain ⟨g, h⟩ := gd_some h
  refine am_iald X dX7_looks_20 rfl g ?_
  obtain ⟨g, h⟩ := gd_some h
  refine am_iast X dX7_looks_21 rfl g ?_
  refine am_tops h (fun σ21 h => ?_)
  refine am_aload_n X dX7_looks_22 rfl rfl ?_
  refine am_getf (v := .ref 63) X dX7_looks_23 fl_X7_18 rfl rfl (by decide) ?_
  refine am_iconst (v := (2 : Int32)) X dX7_looks_26 (by decide) ?_
  refine am_aload_n X dX7_looks_27 rfl rfl ?_
  refine am_iload_n X dX7_looks_28 rfl rfl ?_
  obtain ⟨v29, σ29, hc, h⟩ := bd2_some h
  refine am_callv_i1 X dX7_looks_29 cw_X7_169 (ct_X7_uneven hG N _ _ _ hc) (Nat.le_of_ble_eq_true rfl) rfl rfl rfl rfl (Nat.le_of_ble_eq_true rfl) ?_
  obtain ⟨v32, σ32, hc, h⟩ := bd2_some h
  refine am_calls_i1 X dX7_looks_32 cw_X7_173 (ct_X7_size hG N _ _ _ hc) (Nat.le_of_ble_eq_true rfl) rfl (Nat.le_of_ble_eq_true rfl) ?_
  obtain ⟨g, h⟩ := gd_some h
  refine am_iast X dX7_looks_35 rfl g ?_
  refine am_tops h (fun σ35 h => ?_)
  refine am_aload_n X dX7_looks_36 rfl rfl ?_
  refine am_getf (v := .ref 63) X dX7_looks_37 fl_X7_18 rfl rfl (by decide) ?_
  refine am_iconst (v := (3 : Int32)) X dX7_looks_40 (by decide) ?_
  refine am_aload_n X dX7_looks_41 rfl rfl ?_
  refine am_getf (v := .ref 61) X dX7_looks_42 fl_X7_9 rfl rfl (by decide) ?_
  refine am_iconst (v := (5 : Int32)) X dX7_looks_45 (by decide) ?_
  obtain ⟨g, h⟩ := gd_some h
  refine am_iald X dX7_looks_46 rfl g ?_
  refine am_bipush (v := (7 : Int32)) X dX7_looks_47 (by decide) ?_
  refine am_irem X dX7_looks_49 (by decide) ?_
  obtain ⟨g, h⟩ := gd_some h
  refine am_iast X dX7_looks_50 rfl g ?_
  refine am_tops h (fun σ50 h => ?_)
  refine am_aload_n X dX7_looks_51 rfl rfl ?_
  refine am_getf (v := .ref 63) X dX7_looks_52 fl_X7_18 rfl rfl (by decide) ?_
  refine am_iconst (v := (4 : Int32)) X dX7_looks_55 (by decide) ?_
  refine am_aload_n X dX7_looks_56 rfl rfl ?_
  refine am_iload_n X dX7_looks_57 rfl rfl ?_
  obtain ⟨v58, σ58, hc, h⟩ := bd2_some h
  refine am_callv_i1 X dX7_looks_58 cw_X7_176 (ct_X7_leadsFrom hG N _ _ _ hc) (Nat.le_of_ble_eq_true rfl) rfl rfl rfl rfl (Nat.le_of_ble_eq_true rfl) ?_
  obtain ⟨v61, σ61, hc, h⟩ := bd2_some h
  refine am_calls_i1 X dX7_looks_61 cw_X7_179 (ct_X7_count1 hG N _ _ _ hc) (Nat.le_of_ble_eq_true rfl) rfl (Nat.le_of_ble_eq_true rfl) ?_
  obtain ⟨g, h⟩ := gd_some h
  refine am_iast X dX7_looks_64 rfl g ?_
  refine am_tops h (fun σ64 h => ?_)
  refine am_aload_n X dX7_looks_65 rfl rfl ?_
  refine am_iconst (v := (0 : Int32)) X dX7_looks_66 (by decide) ?_
  refine am_putfi X dX7_looks_67 fp_X7_182 rfl rfl ?_
  refine am_tops h (fun σ67 h => ?_)
  refine am_aload_n X dX7_looks_70 rfl rfl ?_
  refine am_iconst (v := (0 : Int32)) X dX7_looks_71 (by decide) ?_
  refine am_putfi X dX7_looks_72 fp_X7_185 rfl rfl ?_
  refine am_tops h (fun σ72 h => ?_)
  refine am_aload_n X dX7_looks_75 rfl rfl ?_
  refine am_iconst (v := (0 : Int32)) X dX7_looks_76 (by decide) ?_
  refine am_putfi X dX7_looks_77 fp_X7_188 rfl rfl ?_
  refine am_tops h (fun σ77 h => ?_)
  refine am_aload_n X dX7_looks_80 rfl rfl ?_
  refine am_getf (v := .ref 61) X dX7_looks_81 fl_X7_9 rfl rfl (by decide) ?_
  refine am_iconst (v := (4 : Int32)) X dX7_looks_84 (by decide) ?_
  obtain ⟨g, h⟩ := gd_some h
  refine am_iald X dX7_looks_85 rfl g ?_
  refine am_iconst (v := (-1 : Int32)) X dX7_looks_86 (by decide) ?_
  refine am_icmp_ne (tgt := 94) X dX7_looks_87 (by decide) (fun c => ?_) (fun c => ?_)
  · have h := if_f h c
    refine am_aload_n X dX7_looks_94 rfl rfl ?_
    refine am_getf (v := .ref 61) X dX7_looks_95 fl_X7_9 rfl rfl (by decide) ?_
    refine am_sipush (v := (201 : Int32)) X dX7_looks_98 (by decide) ?_
    refine am_aload_n X dX7_looks_101 rfl rfl ?_
    refine am_getf (v := .ref 61) X dX7_looks_102 fl_X7_9 rfl rfl (by decide) ?_
    refine am_iconst (v := (4 : Int32)) X dX7_looks_105 (by decide) ?_
    obtain ⟨g, h⟩ := gd_some h
    refine am_iald X dX7_looks_106 rfl g ?_
    refine am_iadd X dX7_looks_107 ?_
    obtain ⟨g, h⟩ := gd_some h
    refine am_iald X dX7_looks_108 rfl g ?_
    exact am_jump (t_X7_looks_109 hG N _ _ _ h K h0 X) rfl ⟨rfl, trivial⟩
  · have h := if_t h c
    refine am_iconst (v := (0 : Int32)) X dX7_looks_90 (by decide) ?_
    refine am_goto (tgt := 109) X dX7_looks_91 (by decide) ?_
    exact am_jump (t_X7_looks_109 hG N _ _ _ h K h0 X) rfl ⟨rfl, trivial⟩
set_option maxRecDepth 100000 in
set_option maxHeartbeats 4000000 in
theorem t_X7_allowedOf_60 {G : Cx} (hG : am_G G) (N : Nat) (s0 : Int32) (s1 : Int32) (σ : Sg) (r : Int32 × Sg) (h : b_X7_allowedOf_60 N s0 s1 σ = some r) : am_Wp G mX7_allowedOf 2 (am_qi r.1 r.2) 60 [none, none, none] [.int s1, .int s0] σ := by
  intro K h0 X
  unfold b_X7_allowedOf_60 at h
  refine am_iadd X dX7_allowedOf_60 ?_
  obtain rfl := Option.some.inj h
  exact am_iret X h0 dX7_allowedOf_61 rfl ⟨rfl, rfl⟩
set_option maxRecDepth 100000 in
set_option maxHeartbeats 4000000 in
theorem t_X7_allowedOf_59 {G : Cx} (hG : am_G G) (N : Nat) (s0 : Int32) (σ : Sg) (r : Int32 × Sg) (h : b_X7_allowedOf_59 N s0 σ = some r) : am_Wp G mX7_allowedOf 2 (am_qi r.1 r.2) 59 [none, none, none] [.int s0] σ := by
  intro K h0 X
  unfold b_X7_allowedOf_59 at h
  refine am_iconst (v := (0 : Int32)) X dX7_allowedOf_59 (by decide) ?_
  exact am_jump (t_X7_allowedOf_60 hG N _ _ _ _ h K h0 X) rfl trivial
set_option maxRecDepth 100000 in
set_option maxHeartbeats 4000000 in
theorem ct_X7_allowedOf {G : Cx} (hG : am_G G) (N : Nat) (x1 : Int32) (σ : Sg) (r : Int32 × Sg) (h : f_X7_allowedOf N x1 σ = some r) : am_Ct G 3 yX7_allowedOf mX7_allowedOf [.ref 60, .int x1] σ (am_qi r.1 r.2) := by
  refine am_enter hG rfl rfl (Nat.le_of_ble_eq_true rfl) ?_
  intro K h0 X
  unfold f_X7_allowedOf at h
  refine am_jump (pc' := 0) (ls' := [some (.ref 60), some (.int x1), none]) ?_ rfl ⟨rfl, rfl, trivial⟩
  refine am_aload_n X dX7_allowedOf_0 rfl rfl ?_
  refine am_iload_n X dX7_allowedOf_1 rfl rfl ?_
  obtain ⟨σ2, hc, h⟩ := bd_some h
  refine am_callv_v1 X dX7_allowedOf_2 cw_X7_191 (ct_X7_looks hG N _ _ _ hc) (Nat.le_of_ble_eq_true rfl) rfl rfl rfl rfl (Nat.le_of_ble_eq_true rfl) ?_
  refine am_aload_n X dX7_allowedOf_5 rfl rfl ?_
  refine am_getf (v := .ref 61) X dX7_allowedOf_6 fl_X7_9 rfl rfl (by decide) ?_
  refine am_bipush (v := (10 : Int32)) X dX7_allowedOf_9 (by decide) ?_
  refine am_iload_n X dX7_allowedOf_11 rfl rfl ?_
  refine am_iadd X dX7_allowedOf_12 ?_
  obtain ⟨g, h⟩ := gd_some h
  refine am_iald X dX7_allowedOf_13 rfl g ?_
  refine am_topi h (fun x2_14 h => ?_)
  refine am_istore_n (ls' := [some (.ref 60), some (.int x1), some (.int x2_14)]) X dX7_allowedOf_14 rfl (by decide)  rfl rfl ?_
  refine am_iload_n X dX7_allowedOf_15 rfl rfl ?_
  refine am_iconst (v := (4 : Int32)) X dX7_allowedOf_16 (by decide) ?_
  refine am_icmp_ne (tgt := 26) X dX7_allowedOf_17 (by decide) (fun c => ?_) (fun c => ?_)
  · have h := if_f h c
    refine am_aload_n X dX7_allowedOf_26 rfl rfl ?_
    refine am_getf (v := .int (rg σ2 60 13)) X dX7_allowedOf_27 fl_X7_188 rfl rfl (by decide) ?_
    refine am_iload_n X dX7_allowedOf_30 rfl rfl ?_
    refine am_iconst (v := (1 : Int32)) X dX7_allowedOf_31 (by decide) ?_
    refine am_icmp_ne (tgt := 59) X dX7_allowedOf_32 (by decide) (fun c => ?_) (fun c => ?_)
    · have h := if_f h c
      exact am_jump (t_X7_allowedOf_59 hG N _ _ _ h K h0 X) rfl trivial
    · have h := if_t h c
      refine am_aload_n X dX7_allowedOf_35 rfl rfl ?_
      refine am_getf (v := .ref 61) X dX7_allowedOf_36 fl_X7_9 rfl rfl (by decide) ?_
      refine am_iconst (v := (5 : Int32)) X dX7_allowedOf_39 (by decide) ?_
      obtain ⟨g, h⟩ := gd_some h
      refine am_iald X dX7_allowedOf_40 rfl g ?_
      refine am_bipush (v := (7 : Int32)) X dX7_allowedOf_41 (by decide) ?_
      refine am_irem X dX7_allowedOf_43 (by decide) ?_
      refine am_if_ne (tgt := 59) X dX7_allowedOf_44 (by decide) (fun c => ?_) (fun c => ?_)
      · have h := if_f h c
        exact am_jump (t_X7_allowedOf_59 hG N _ _ _ h K h0 X) rfl trivial
      · have h := if_t h c
        refine am_aload_n X dX7_allowedOf_47 rfl rfl ?_
        refine am_getf (v := .ref 61) X dX7_allowedOf_48 fl_X7_9 rfl rfl (by decide) ?_
        refine am_bipush (v := (17 : Int32)) X dX7_allowedOf_51 (by decide) ?_
        refine am_iload_n X dX7_allowedOf_53 rfl rfl ?_
        refine am_iadd X dX7_allowedOf_54 ?_
        obtain ⟨g, h⟩ := gd_some h
        refine am_iald X dX7_allowedOf_55 rfl g ?_
        refine am_goto (tgt := 60) X dX7_allowedOf_56 (by decide) ?_
        exact am_jump (t_X7_allowedOf_60 hG N _ _ _ _ h K h0 X) rfl trivial
  · have h := if_t h c
    refine am_sipush (v := (9999 : Int32)) X dX7_allowedOf_20 (by decide) ?_
    refine am_goto (tgt := 61) X dX7_allowedOf_23 (by decide) ?_
    obtain rfl := Option.some.inj h
    exact am_iret X h0 dX7_allowedOf_61 rfl ⟨rfl, rfl⟩
set_option maxRecDepth 100000 in
set_option maxHeartbeats 4000000 in
theorem t_X7_fineOf_25 {G : Cx} (hG : am_G G) (N : Nat) (σ : Sg) (r : Int32 × Sg) (h : b_X7_fineOf_25 N σ = some r) : am_Wp G mX7_fineOf 2 (am_qi r.1 r.2) 25 [some (.ref 60), none, none] [] σ := by
  intro K h0 X
  unfold b_X7_fineOf_25 at h
  refine am_bipush (v := (10 : Int32)) X dX7_fineOf_25 (by decide) ?_
  refine am_aload_n X dX7_fineOf_27 rfl rfl ?_
  refine am_getf (v := .int (rg σ 60 11)) X dX7_fineOf_28 fl_X7_182 rfl rfl (by decide) ?_
  refine am_iadd X dX7_fineOf_31 ?_
  refine am_iconst (v := (2 : Int32)) X dX7_fineOf_32 (by decide) ?_
  refine am_idiv X dX7_fineOf_33 (by decide) ?_
  refine am_goto (tgt := 44) X dX7_fineOf_34 (by decide) ?_
  obtain rfl := Option.some.inj h
  exact am_iret X h0 dX7_fineOf_44 rfl ⟨rfl, rfl⟩
set_option maxRecDepth 100000 in
set_option maxHeartbeats 4000000 in
theorem ct_X7_fineOf {G : Cx} (hG : am_G G) (N : Nat) (x1 : Int32) (σ : Sg) (r : Int32 × Sg) (h : f_X7_fineOf N x1 σ = some r) : am_Ct G 3 yX7_fineOf mX7_fineOf [.ref 60, .int x1] σ (am_qi r.1 r.2) := by
  refine am_enter hG rfl rfl (Nat.le_of_ble_eq_true rfl) ?_
  intro K h0 X
  unfold f_X7_fineOf at h
  refine am_jump (pc' := 0) (ls' := [some (.ref 60), some (.int x1), none]) ?_ rfl ⟨rfl, rfl, trivial⟩
  refine am_aload_n X dX7_fineOf_0 rfl rfl ?_
  refine am_iload_n X dX7_fineOf_1 rfl rfl ?_
  obtain ⟨σ2, hc, h⟩ := bd_some h
  refine am_callv_v1 X dX7_fineOf_2 cw_X7_191 (ct_X7_looks hG N _ _ _ hc) (Nat.le_of_ble_eq_true rfl) rfl rfl rfl rfl (Nat.le_of_ble_eq_true rfl) ?_
  refine am_aload_n X dX7_fineOf_5 rfl rfl ?_
  refine am_getf (v := .ref 61) X dX7_fineOf_6 fl_X7_9 rfl rfl (by decide) ?_
  refine am_bipush (v := (10 : Int32)) X dX7_fineOf_9 (by decide) ?_
  refine am_iload_n X dX7_fineOf_11 rfl rfl ?_
  refine am_iadd X dX7_fineOf_12 ?_
  obtain ⟨g, h⟩ := gd_some h
  refine am_iald X dX7_fineOf_13 rfl g ?_
  refine am_topi h (fun x2_14 h => ?_)
  refine am_istore_n (ls' := [some (.ref 60), some (.int x1), some (.int x2_14)]) X dX7_fineOf_14 rfl (by decide)  rfl rfl ?_
  refine am_iload_n X dX7_fineOf_15 rfl rfl ?_
  refine am_iconst (v := (2 : Int32)) X dX7_fineOf_16 (by decide) ?_
  refine am_icmp_eq (tgt := 25) X dX7_fineOf_17 (by decide) (fun c => ?_) (fun c => ?_)
  · have h := if_t h c
    exact am_jump (t_X7_fineOf_25 hG N _ _ h K h0 X) rfl ⟨rfl, trivial⟩
  · have h := if_f h c
    refine am_iload_n X dX7_fineOf_20 rfl rfl ?_
    refine am_iconst (v := (5 : Int32)) X dX7_fineOf_21 (by decide) ?_
    refine am_icmp_ne (tgt := 37) X dX7_fineOf_22 (by decide) (fun c => ?_) (fun c => ?_)
    · have h := if_f h c
      refine am_bipush (v := (10 : Int32)) X dX7_fineOf_37 (by decide) ?_
      refine am_aload_n X dX7_fineOf_39 rfl rfl ?_
      refine am_getf (v := .int (rg σ2 60 11)) X dX7_fineOf_40 fl_X7_182 rfl rfl (by decide) ?_
      refine am_iadd X dX7_fineOf_43 ?_
      obtain rfl := Option.some.inj h
      exact am_iret X h0 dX7_fineOf_44 rfl ⟨rfl, rfl⟩
    · have h := if_t h c
      exact am_jump (t_X7_fineOf_25 hG N _ _ h K h0 X) rfl ⟨rfl, trivial⟩
set_option maxRecDepth 100000 in
set_option maxHeartbeats 4000000 in
theorem ct_X7_stepOf {G : Cx} (hG : am_G G) (N : Nat) (x1 : Int32) (σ : Sg) (r : Int32 × Sg) (h : f_X7_stepOf N x1 σ = some r) : am_Ct G 3 yX7_stepOf mX7_stepOf [.ref 60, .int x1] σ (am_qi r.1 r.2) := by
  refine am_enter hG rfl rfl (Nat.le_of_ble_eq_true rfl) ?_
  intro K h0 X
  unfold f_X7_stepOf at h
  refine am_jump (pc' := 0) (ls' := [some (.ref 60), some (.int x1)]) ?_ rfl ⟨rfl, rfl, trivial⟩
  refine am_aload_n X dX7_stepOf_0 rfl rfl ?_
  refine am_iload_n X dX7_stepOf_1 rfl rfl ?_
  obtain ⟨σ2, hc, h⟩ := bd_some h
  refine am_callv_v1 X dX7_stepOf_2 cw_X7_191 (ct_X7_looks hG N _ _ _ hc) (Nat.le_of_ble_eq_true rfl) rfl rfl rfl rfl (Nat.le_of_ble_eq_true rfl) ?_
  refine am_iconst (v := (1 : Int32)) X dX7_stepOf_5 (by decide) ?_
  refine am_aload_n X dX7_stepOf_6 rfl rfl ?_
  refine am_getf (v := .int (rg σ2 60 12)) X dX7_stepOf_7 fl_X7_185 rfl rfl (by decide) ?_
  refine am_iadd X dX7_stepOf_10 ?_
  refine am_aload_n X dX7_stepOf_11 rfl rfl ?_
  refine am_getf (v := .ref 61) X dX7_stepOf_12 fl_X7_9 rfl rfl (by decide) ?_
  refine am_bipush (v := (10 : Int32)) X dX7_stepOf_15 (by decide) ?_
  refine am_iload_n X dX7_stepOf_17 rfl rfl ?_
  refine am_iadd X dX7_stepOf_18 ?_
  obtain ⟨g, h⟩ := gd_some h
  refine am_iald X dX7_stepOf_19 rfl g ?_
  refine am_iconst (v := (5 : Int32)) X dX7_stepOf_20 (by decide) ?_
  refine am_icmp_ne (tgt := 28) X dX7_stepOf_21 (by decide) (fun c => ?_) (fun c => ?_)
  · have h := if_f h c
    refine am_iconst (v := (0 : Int32)) X dX7_stepOf_28 (by decide) ?_
    refine am_isub X dX7_stepOf_29 ?_
    obtain rfl := Option.some.inj h
    exact am_iret X h0 dX7_stepOf_30 rfl ⟨rfl, rfl⟩
  · have h := if_t h c
    refine am_iconst (v := (1 : Int32)) X dX7_stepOf_24 (by decide) ?_
    refine am_goto (tgt := 29) X dX7_stepOf_25 (by decide) ?_
    refine am_isub X dX7_stepOf_29 ?_
    obtain rfl := Option.some.inj h
    exact am_iret X h0 dX7_stepOf_30 rfl ⟨rfl, rfl⟩
