set_option maxRecDepth 100000 in
set_option maxHeartbeats 4000000 in
theorem t_X7_ways_38b {G : Cx} (hG : am_G G) (N : Nat) (k38 : Int32 → Int32 → Int32 → Sg → Option (Int64 × Sg)) (hk38 : ∀ (x2 : Int32) (x3 : Int32) (x4 : Int32) (σ : Sg) (r : Int64 × Sg), k38 x2 x3 x4 σ = some r → am_Wp G mX7_ways 3 (am_ql r.1 r.2) 38 [some (.ref 60), none, some (.int x2), some (.int x3), some (.int x4)] [] σ) (x2 : Int32) (x3 : Int32) (x4 : Int32) (σ : Sg) (r : Int64 × Sg) (h : b_X7_ways_38b N k38 x2 x3 x4 σ = some r) : am_Wp G mX7_ways 3 (am_ql r.1 r.2) 38 [some (.ref 60), none, some (.int x2), some (.int x3), some (.int x4)] [] σ := by
  intro K h0 X
  unfold b_X7_ways_38b at h
  refine am_iload X dX7_ways_38 rfl ?_
  refine am_iload_n X dX7_ways_40 rfl rfl ?_
  refine am_icmp_ge (tgt := 55) X dX7_ways_41 (by decide) (fun c => ?_) (fun c => ?_)
  · have h := if_t h c
    refine am_aload_n X dX7_ways_55 rfl rfl ?_
    refine am_getf (v := .ref 80) X dX7_ways_56 fl_X7_70 rfl rfl (by decide) ?_
    refine am_iload_n X dX7_ways_59 rfl rfl ?_
    obtain ⟨g, h⟩ := gd_some h
    refine am_lald X dX7_ways_60 rfl g ?_
    cases h
    exact am_lret X h0 dX7_ways_61 rfl ⟨rfl, rfl⟩
  · have h := if_f h c
    refine am_aload_n X dX7_ways_44 rfl rfl ?_
    refine am_iconst (v := (0 : Int32)) X dX7_ways_45 (by decide) ?_
    obtain ⟨σ46, hc, h⟩ := bd_some h
    refine am_callv_v1 X dX7_ways_46 cw_X7_271 (ct_X7_goesOn hG N _ _ _ hc) (Nat.le_of_ble_eq_true rfl) rfl rfl rfl rfl (Nat.le_of_ble_eq_true rfl) ?_
    refine am_iinc (ls' := fun x4_49 => [some (.ref 60), none, some (.int x2), some (.int x3), some (.int x4_49)]) X dX7_ways_49 rfl h (by decide) (by decide) rfl (fun _ => rfl) (fun x4_49 h => ?_)
    refine am_goto (tgt := 38) X dX7_ways_52 (by decide) ?_
    exact am_jump (hk38 _ _ _ _ _ h K h0 X) rfl ⟨rfl, rfl, rfl, rfl, trivial⟩
set_option maxRecDepth 100000 in
set_option maxHeartbeats 4000000 in
theorem t_X7_ways_38 {G : Cx} (hG : am_G G) (N : Nat) : ∀ (n : Nat) (x2 : Int32) (x3 : Int32) (x4 : Int32) (σ : Sg) (r : Int64 × Sg), b_X7_ways_38 N n x2 x3 x4 σ = some r → am_Wp G mX7_ways 3 (am_ql r.1 r.2) 38 [some (.ref 60), none, some (.int x2), some (.int x3), some (.int x4)] [] σ := by
  intro n
  induction n with
  | zero => intro x2 x3 x4 σ r h; cases h
  | succ n ih => intro x2 x3 x4 σ r h; exact t_X7_ways_38b hG N (b_X7_ways_38 N n) ih x2 x3 x4 σ r h
set_option maxRecDepth 100000 in
set_option maxHeartbeats 4000000 in
theorem ct_X7_ways {G : Cx} (hG : am_G G) (N : Nat) (x1 : Int32) (x2 : Int32) (x3 : Int32) (σ : Sg) (r : Int64 × Sg) (h : f_X7_ways N x1 x2 x3 σ = some r) : am_Ct G 4 yX7_ways mX7_ways [.ref 60, .int x1, .int x2, .int x3] σ (am_ql r.1 r.2) := by
  refine am_enter hG rfl rfl (by decide) ?_
  intro K h0 X
  unfold f_X7_ways at h
  refine am_jump (pc' := 0) (ls' := [some (.ref 60), some (.int x1), some (.int x2), some (.int x3), none]) ?_ rfl ⟨rfl, rfl, rfl, rfl, trivial⟩
  refine am_aload_n X dX7_ways_0 rfl rfl ?_
  refine am_iload_n X dX7_ways_1 rfl rfl ?_
  obtain ⟨v2, σ2, hc, h⟩ := bd2_some h
  refine am_callv_i1 X dX7_ways_2 cw_X7_161 (ct_X7_isStreet hG N _ _ _ hc) (Nat.le_of_ble_eq_true rfl) rfl rfl rfl rfl (Nat.le_of_ble_eq_true rfl) ?_
  refine am_if_eq (tgt := 26) X dX7_ways_5 (by decide) (fun c => ?_) (fun c => ?_)
  · have h := if_t h c
    refine am_ldc2 (v := (-9223372036854775808 : Int64)) X dX7_ways_26 (wm_r33 _ (List.mem_of_getElem? (i := 13) rfl)) ?_
    cases h
    exact am_lret X h0 dX7_ways_29 rfl ⟨rfl, rfl⟩
  · have h := if_f h c
    refine am_aload_n X dX7_ways_8 rfl rfl ?_
    refine am_iload_n X dX7_ways_9 rfl rfl ?_
    obtain ⟨v10, σ10, hc, h⟩ := bd2_some h
    refine am_callv_i1 X dX7_ways_10 cw_X7_161 (ct_X7_isStreet hG N _ _ _ hc) (Nat.le_of_ble_eq_true rfl) rfl rfl rfl rfl (Nat.le_of_ble_eq_true rfl) ?_
    refine am_if_eq (tgt := 26) X dX7_ways_13 (by decide) (fun c => ?_) (fun c => ?_)
    · have h := if_t h c
      refine am_ldc2 (v := (-9223372036854775808 : Int64)) X dX7_ways_26 (wm_r33 _ (List.mem_of_getElem? (i := 13) rfl)) ?_
      cases h
      exact am_lret X h0 dX7_ways_29 rfl ⟨rfl, rfl⟩
    · have h := if_f h c
      refine am_iload_n X dX7_ways_16 rfl rfl ?_
      refine am_iconst (v := (0 : Int32)) X dX7_ways_17 (by decide) ?_
      refine am_bipush (v := (20 : Int32)) X dX7_ways_18 (by decide) ?_
      obtain ⟨v20, σ20, hc, h⟩ := bd2_some h
      refine am_calls_i3 X dX7_ways_20 cw_X7_84 (ct_X7_in hG N _ _ _ _ _ hc) (Nat.le_of_ble_eq_true rfl) rfl (Nat.le_of_ble_eq_true rfl) ?_
      refine am_if_ne (tgt := 30) X dX7_ways_23 (by decide) (fun c => ?_) (fun c => ?_)
      · have h := if_f h c
        refine am_aload_n X dX7_ways_30 rfl rfl ?_
        refine am_iload_n X dX7_ways_31 rfl rfl ?_
        obtain ⟨σ32, hc, h⟩ := bd_some h
        refine am_callv_v1 X dX7_ways_32 cw_X7_268 (ct_X7_begins hG N _ _ _ hc) (Nat.le_of_ble_eq_true rfl) rfl rfl rfl rfl (Nat.le_of_ble_eq_true rfl) ?_
        refine am_iconst (v := (0 : Int32)) X dX7_ways_35 (by decide) ?_
        refine am_istore (ls' := [some (.ref 60), some (.int x1), some (.int x2), some (.int x3), some (.int (0 : Int32))]) X dX7_ways_36 (by decide)  rfl rfl ?_
        exact am_jump (t_X7_ways_38 hG N N _ _ _ _ _ h K h0 X) rfl ⟨rfl, rfl, rfl, rfl, trivial⟩
      · have h := if_t h c
        refine am_ldc2 (v := (-9223372036854775808 : Int64)) X dX7_ways_26 (wm_r33 _ (List.mem_of_getElem? (i := 13) rfl)) ?_
        cases h
        exact am_lret X h0 dX7_ways_29 rfl ⟨rfl, rfl⟩
set_option maxRecDepth 100000 in
set_option maxHeartbeats 4000000 in
theorem t_X7_wrong_137 {G : Cx} (hG : am_G G) (N : Nat) (x1 : Int32) (x2 : Int32) (x3 : Int32) (σ : Sg) (r : Int32 × Sg) (h : b_X7_wrong_137 N x1 x2 x3 σ = some r) : am_Wp G mX7_wrong 1 (am_qi r.1 r.2) 137 [none, some (.int x1), some (.int x2), some (.int x3), none, none] [] σ := by
  intro K h0 X
  unfold b_X7_wrong_137 at h
  refine am_iload_n X dX7_wrong_137 rfl rfl ?_
  refine am_if_ne (tgt := 145) X dX7_wrong_138 (by decide) (fun c => ?_) (fun c => ?_)
  · have h := if_f h c
    refine am_iload_n X dX7_wrong_145 rfl rfl ?_
    cases h
    exact am_iret X h0 dX7_wrong_146 rfl ⟨rfl, rfl⟩
  · have h := if_t h c
    refine am_iload_n X dX7_wrong_141 rfl rfl ?_
    refine am_goto (tgt := 146) X dX7_wrong_142 (by decide) ?_
    cases h
    exact am_iret X h0 dX7_wrong_146 rfl ⟨rfl, rfl⟩
set_option maxRecDepth 100000 in
set_option maxHeartbeats 4000000 in
theorem t_X7_wrong_129 {G : Cx} (hG : am_G G) (N : Nat) (k59 : Int32 → Int32 → Int32 → Int32 → Sg → Option (Int32 × Sg)) (hk59 : ∀ (x1 : Int32) (x2 : Int32) (x3 : Int32) (x4 : Int32) (σ : Sg) (r : Int32 × Sg), k59 x1 x2 x3 x4 σ = some r → am_Wp G mX7_wrong 1 (am_qi r.1 r.2) 59 [some (.ref 60), some (.int x1), some (.int x2), some (.int x3), some (.int x4), none] [] σ) (x1 : Int32) (x2 : Int32) (x4 : Int32) (s0 : Int32) (s1 : Int32) (σ : Sg) (r : Int32 × Sg) (h : b_X7_wrong_129 N k59 x1 x2 x4 s0 s1 σ = some r) : am_Wp G mX7_wrong 1 (am_qi r.1 r.2) 129 [some (.ref 60), some (.int x1), some (.int x2), none, some (.int x4), none] [.int s1, .int s0] σ := by
  intro K h0 X
  unfold b_X7_wrong_129 at h
  refine am_ior X dX7_wrong_129 ?_
  refine am_topi h (fun x3_130 h => ?_)
  refine am_istore_n (ls' := [some (.ref 60), some (.int x1), some (.int x2), some (.int x3_130), some (.int x4), none]) X dX7_wrong_130 rfl (by decide)  rfl rfl ?_
  refine am_iinc (ls' := fun x4_131 => [some (.ref 60), some (.int x1), some (.int x2), some (.int x3_130), some (.int x4_131), none]) X dX7_wrong_131 rfl h (by decide) (by decide) rfl (fun _ => rfl) (fun x4_131 h => ?_)
  refine am_goto (tgt := 59) X dX7_wrong_134 (by decide) ?_
  exact am_jump (hk59 _ _ _ _ _ _ h K h0 X) rfl ⟨rfl, rfl, rfl, rfl, rfl, trivial⟩
set_option maxRecDepth 100000 in
set_option maxHeartbeats 4000000 in
theorem t_X7_wrong_106 {G : Cx} (hG : am_G G) (N : Nat) (k59 : Int32 → Int32 → Int32 → Int32 → Sg → Option (Int32 × Sg)) (hk59 : ∀ (x1 : Int32) (x2 : Int32) (x3 : Int32) (x4 : Int32) (σ : Sg) (r : Int32 × Sg), k59 x1 x2 x3 x4 σ = some r → am_Wp G mX7_wrong 1 (am_qi r.1 r.2) 59 [some (.ref 60), some (.int x1), some (.int x2), some (.int x3), some (.int x4), none] [] σ) (x1 : Int32) (x2 : Int32) (x3 : Int32) (x4 : Int32) (s0 : Int32) (σ : Sg) (r : Int32 × Sg) (h : b_X7_wrong_106 N k59 x1 x2 x3 x4 s0 σ = some r) : am_Wp G mX7_wrong 1 (am_qi r.1 r.2) 106 [some (.ref 60), some (.int x1), some (.int x2), some (.int x3), some (.int x4), none] [.int s0] σ := by
  intro K h0 X
  unfold b_X7_wrong_106 at h
  refine am_istore (ls' := [some (.ref 60), some (.int x1), some (.int x2), some (.int x3), some (.int x4), some (.int s0)]) X dX7_wrong_106 (by decide)  rfl rfl ?_
  refine am_iload_n X dX7_wrong_108 rfl rfl ?_
  refine am_iload X dX7_wrong_109 rfl ?_
  refine am_iconst (v := (0 : Int32)) X dX7_wrong_111 (by decide) ?_
  refine am_sipush (v := (999 : Int32)) X dX7_wrong_112 (by decide) ?_
  obtain ⟨v115, σ115, hc, h⟩ := bd2_some h
  refine am_calls_i3 X dX7_wrong_115 cw_X7_84 (ct_X7_in hG N _ _ _ _ _ hc) (Nat.le_of_ble_eq_true rfl) rfl (Nat.le_of_ble_eq_true rfl) ?_
  refine am_if_eq (tgt := 128) X dX7_wrong_118 (by decide) (fun c => ?_) (fun c => ?_)
  · have h := if_t h c
    refine am_iconst (v := (0 : Int32)) X dX7_wrong_128 (by decide) ?_
    exact am_jump (t_X7_wrong_129 hG N k59 hk59 _ _ _ _ _ _ _ h K h0 X) rfl ⟨rfl, rfl, rfl, rfl, trivial⟩
  · have h := if_f h c
    refine am_iconst (v := (1 : Int32)) X dX7_wrong_121 (by decide) ?_
    refine am_iload X dX7_wrong_122 rfl ?_
    refine am_ishl X dX7_wrong_124 ?_
    refine am_goto (tgt := 129) X dX7_wrong_125 (by decide) ?_
    exact am_jump (t_X7_wrong_129 hG N k59 hk59 _ _ _ _ _ _ _ h K h0 X) rfl ⟨rfl, rfl, rfl, rfl, trivial⟩
set_option maxRecDepth 100000 in
set_option maxHeartbeats 4000000 in
theorem t_X7_wrong_59b {G : Cx} (hG : am_G G) (N : Nat) (k59 : Int32 → Int32 → Int32 → Int32 → Sg → Option (Int32 × Sg)) (hk59 : ∀ (x1 : Int32) (x2 : Int32) (x3 : Int32) (x4 : Int32) (σ : Sg) (r : Int32 × Sg), k59 x1 x2 x3 x4 σ = some r → am_Wp G mX7_wrong 1 (am_qi r.1 r.2) 59 [some (.ref 60), some (.int x1), some (.int x2), some (.int x3), some (.int x4), none] [] σ) (x1 : Int32) (x2 : Int32) (x3 : Int32) (x4 : Int32) (σ : Sg) (r : Int32 × Sg) (h : b_X7_wrong_59b N k59 x1 x2 x3 x4 σ = some r) : am_Wp G mX7_wrong 1 (am_qi r.1 r.2) 59 [some (.ref 60), some (.int x1), some (.int x2), some (.int x3), some (.int x4), none] [] σ := by
  intro K h0 X
  unfold b_X7_wrong_59b at h
  refine am_iload X dX7_wrong_59 rfl ?_
  refine am_aload_n X dX7_wrong_61 rfl rfl ?_
  refine am_getf (v := .ref 61) X dX7_wrong_62 fl_X7_9 rfl rfl (by decide) ?_
  refine am_iconst (v := (2 : Int32)) X dX7_wrong_65 (by decide) ?_
  obtain ⟨g, h⟩ := gd_some h
  refine am_iald X dX7_wrong_66 rfl g ?_
  refine am_icmp_ge (tgt := 137) X dX7_wrong_67 (by decide) (fun c => ?_) (fun c => ?_)
  · have h := if_t h c
    exact am_jump (t_X7_wrong_137 hG N _ _ _ _ _ h K h0 X) rfl ⟨rfl, rfl, rfl, trivial⟩
  · have h := if_f h c
    refine am_iload_n X dX7_wrong_70 rfl rfl ?_
    refine am_if_eq (tgt := 137) X dX7_wrong_71 (by decide) (fun c => ?_) (fun c => ?_)
    · have h := if_t h c
      exact am_jump (t_X7_wrong_137 hG N _ _ _ _ _ h K h0 X) rfl ⟨rfl, rfl, rfl, trivial⟩
    · have h := if_f h c
      refine am_iload_n X dX7_wrong_74 rfl rfl ?_
      refine am_iconst (v := (1 : Int32)) X dX7_wrong_75 (by decide) ?_
      refine am_icmp_ne (tgt := 94) X dX7_wrong_76 (by decide) (fun c => ?_) (fun c => ?_)
      · have h := if_f h c
        refine am_aload_n X dX7_wrong_94 rfl rfl ?_
        refine am_getf (v := .ref 61) X dX7_wrong_95 fl_X7_9 rfl rfl (by decide) ?_
        refine am_bipush (v := (94 : Int32)) X dX7_wrong_98 (by decide) ?_
        refine am_iload X dX7_wrong_100 rfl ?_
        refine am_iadd X dX7_wrong_102 ?_
        obtain ⟨g, h⟩ := gd_some h
        refine am_iald X dX7_wrong_103 rfl g ?_
        refine am_iload_n X dX7_wrong_104 rfl rfl ?_
        refine am_iadd X dX7_wrong_105 ?_
        exact am_jump (t_X7_wrong_106 hG N k59 hk59 _ _ _ _ _ _ _ h K h0 X) rfl ⟨rfl, rfl, rfl, rfl, rfl, trivial⟩
      · have h := if_t h c
        refine am_aload_n X dX7_wrong_79 rfl rfl ?_
        refine am_getf (v := .ref 61) X dX7_wrong_80 fl_X7_9 rfl rfl (by decide) ?_
        refine am_bipush (v := (87 : Int32)) X dX7_wrong_83 (by decide) ?_
        refine am_iload X dX7_wrong_85 rfl ?_
        refine am_iadd X dX7_wrong_87 ?_
        obtain ⟨g, h⟩ := gd_some h
        refine am_iald X dX7_wrong_88 rfl g ?_
        refine am_iload_n X dX7_wrong_89 rfl rfl ?_
        refine am_isub X dX7_wrong_90 ?_
        refine am_goto (tgt := 106) X dX7_wrong_91 (by decide) ?_
        exact am_jump (t_X7_wrong_106 hG N k59 hk59 _ _ _ _ _ _ _ h K h0 X) rfl ⟨rfl, rfl, rfl, rfl, rfl, trivial⟩
set_option maxRecDepth 100000 in
set_option maxHeartbeats 4000000 in
theorem t_X7_wrong_59 {G : Cx} (hG : am_G G) (N : Nat) : ∀ (n : Nat) (x1 : Int32) (x2 : Int32) (x3 : Int32) (x4 : Int32) (σ : Sg) (r : Int32 × Sg), b_X7_wrong_59 N n x1 x2 x3 x4 σ = some r → am_Wp G mX7_wrong 1 (am_qi r.1 r.2) 59 [some (.ref 60), some (.int x1), some (.int x2), some (.int x3), some (.int x4), none] [] σ := by
  intro n
  induction n with
  | zero => intro x1 x2 x3 x4 σ r h; cases h
  | succ n ih => intro x1 x2 x3 x4 σ r h; exact t_X7_wrong_59b hG N (b_X7_wrong_59 N n) ih x1 x2 x3 x4 σ r h
set_option maxRecDepth 100000 in
set_option maxHeartbeats 4000000 in
theorem t_X7_wrong_16b {G : Cx} (hG : am_G G) (N : Nat) (k16 : Int32 → Int32 → Int32 → Sg → Option (Int32 × Sg)) (hk16 : ∀ (x1 : Int32) (x2 : Int32) (x3 : Int32) (σ : Sg) (r : Int32 × Sg), k16 x1 x2 x3 σ = some r → am_Wp G mX7_wrong 1 (am_qi r.1 r.2) 16 [some (.ref 60), some (.int x1), some (.int x2), some (.int x3), none, none] [] σ) (x1 : Int32) (x2 : Int32) (x3 : Int32) (σ : Sg) (r : Int32 × Sg) (h : b_X7_wrong_16b N k16 x1 x2 x3 σ = some r) : am_Wp G mX7_wrong 1 (am_qi r.1 r.2) 16 [some (.ref 60), some (.int x1), some (.int x2), some (.int x3), none, none] [] σ := by
  intro K h0 X
  unfold b_X7_wrong_16b at h
  refine am_iload_n X dX7_wrong_16 rfl rfl ?_
  refine am_aload_n X dX7_wrong_17 rfl rfl ?_
  refine am_getf (v := .ref 61) X dX7_wrong_18 fl_X7_9 rfl rfl (by decide) ?_
  refine am_iconst (v := (2 : Int32)) X dX7_wrong_21 (by decide) ?_
  obtain ⟨g, h⟩ := gd_some h
  refine am_iald X dX7_wrong_22 rfl g ?_
  refine am_icmp_ge (tgt := 54) X dX7_wrong_23 (by decide) (fun c => ?_) (fun c => ?_)
  · have h := if_t h c
    refine am_iconst (v := (0 : Int32)) X dX7_wrong_54 (by decide) ?_
    refine am_istore_n (ls' := [some (.ref 60), some (.int x1), some (.int x2), some (.int (0 : Int32)), none, none]) X dX7_wrong_55 rfl (by decide)  rfl rfl ?_
    refine am_iconst (v := (0 : Int32)) X dX7_wrong_56 (by decide) ?_
    refine am_istore (ls' := [some (.ref 60), some (.int x1), some (.int x2), some (.int (0 : Int32)), some (.int (0 : Int32)), none]) X dX7_wrong_57 (by decide)  rfl rfl ?_
    exact am_jump (t_X7_wrong_59 hG N N _ _ _ _ _ _ h K h0 X) rfl ⟨rfl, rfl, rfl, rfl, rfl, trivial⟩
  · have h := if_f h c
    refine am_iload_n X dX7_wrong_26 rfl rfl ?_
    refine am_aload_n X dX7_wrong_27 rfl rfl ?_
    refine am_getf (v := .ref 61) X dX7_wrong_28 fl_X7_9 rfl rfl (by decide) ?_
    refine am_bipush (v := (87 : Int32)) X dX7_wrong_31 (by decide) ?_
    refine am_iload_n X dX7_wrong_33 rfl rfl ?_
    refine am_iadd X dX7_wrong_34 ?_
    obtain ⟨g, h⟩ := gd_some h
    refine am_iald X dX7_wrong_35 rfl g ?_
    refine am_aload_n X dX7_wrong_36 rfl rfl ?_
    refine am_getf (v := .ref 61) X dX7_wrong_37 fl_X7_9 rfl rfl (by decide) ?_
    refine am_bipush (v := (94 : Int32)) X dX7_wrong_40 (by decide) ?_
    refine am_iload_n X dX7_wrong_42 rfl rfl ?_
    refine am_iadd X dX7_wrong_43 ?_
    obtain ⟨g, h⟩ := gd_some h
    refine am_iald X dX7_wrong_44 rfl g ?_
    refine am_isub X dX7_wrong_45 ?_
    refine am_iadd X dX7_wrong_46 ?_
    refine am_topi h (fun x2_47 h => ?_)
    refine am_istore_n (ls' := [some (.ref 60), some (.int x1), some (.int x2_47), some (.int x3), none, none]) X dX7_wrong_47 rfl (by decide)  rfl rfl ?_
    refine am_iinc (ls' := fun x3_48 => [some (.ref 60), some (.int x1), some (.int x2_47), some (.int x3_48), none, none]) X dX7_wrong_48 rfl h (by decide) (by decide) rfl (fun _ => rfl) (fun x3_48 h => ?_)
    refine am_goto (tgt := 16) X dX7_wrong_51 (by decide) ?_
    exact am_jump (hk16 _ _ _ _ _ h K h0 X) rfl ⟨rfl, rfl, rfl, rfl, trivial⟩
set_option maxRecDepth 100000 in
set_option maxHeartbeats 4000000 in
theorem t_X7_wrong_16 {G : Cx} (hG : am_G G) (N : Nat) : ∀ (n : Nat) (x1 : Int32) (x2 : Int32) (x3 : Int32) (σ : Sg) (r : Int32 × Sg), b_X7_wrong_16 N n x1 x2 x3 σ = some r → am_Wp G mX7_wrong 1 (am_qi r.1 r.2) 16 [some (.ref 60), some (.int x1), some (.int x2), some (.int x3), none, none] [] σ := by
  intro n
  induction n with
  | zero => intro x1 x2 x3 σ r h; cases h
  | succ n ih => intro x1 x2 x3 σ r h; exact t_X7_wrong_16b hG N (b_X7_wrong_16 N n) ih x1 x2 x3 σ r h
set_option maxRecDepth 100000 in
set_option maxHeartbeats 4000000 in
theorem ct_X7_wrong {G : Cx} (hG : am_G G) (N : Nat) (x1 : Int32) (σ : Sg) (r : Int32 × Sg) (h : f_X7_wrong N x1 σ = some r) : am_Ct G 2 yX7_wrong mX7_wrong [.ref 60, .int x1] σ (am_qi r.1 r.2) := by
  refine am_enter hG rfl rfl (by decide) ?_
  intro K h0 X
  unfold f_X7_wrong at h
  refine am_jump (pc' := 0) (ls' := [some (.ref 60), some (.int x1), none, none, none, none]) ?_ rfl ⟨rfl, rfl, trivial⟩
  refine am_iload_n X dX7_wrong_0 rfl rfl ?_
  refine am_iconst (v := (0 : Int32)) X dX7_wrong_1 (by decide) ?_
  refine am_iconst (v := (2 : Int32)) X dX7_wrong_2 (by decide) ?_
  obtain ⟨v3, σ3, hc, h⟩ := bd2_some h
  refine am_calls_i3 X dX7_wrong_3 cw_X7_84 (ct_X7_in hG N _ _ _ _ _ hc) (Nat.le_of_ble_eq_true rfl) rfl (Nat.le_of_ble_eq_true rfl) ?_
  refine am_if_ne (tgt := 12) X dX7_wrong_6 (by decide) (fun c => ?_) (fun c => ?_)
  · have h := if_f h c
    refine am_iconst (v := (0 : Int32)) X dX7_wrong_12 (by decide) ?_
    refine am_istore_n (ls' := [some (.ref 60), some (.int x1), some (.int (0 : Int32)), none, none, none]) X dX7_wrong_13 rfl (by decide)  rfl rfl ?_
    refine am_iconst (v := (0 : Int32)) X dX7_wrong_14 (by decide) ?_
    refine am_istore_n (ls' := [some (.ref 60), some (.int x1), some (.int (0 : Int32)), some (.int (0 : Int32)), none, none]) X dX7_wrong_15 rfl (by decide)  rfl rfl ?_
    exact am_jump (t_X7_wrong_16 hG N N _ _ _ _ _ h K h0 X) rfl ⟨rfl, rfl, rfl, rfl, trivial⟩
  · have h := if_t h c
    refine am_ldc (v := (-1000001 : Int32)) X dX7_wrong_9 (wm_r19 _ (List.mem_of_getElem? (i := 23) rfl)) ?_
    cases h
    exact am_iret X h0 dX7_wrong_11 rfl ⟨rfl, rfl⟩
