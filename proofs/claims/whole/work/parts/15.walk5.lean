set_option maxRecDepth 100000 in
set_option maxHeartbeats 4000000 in
theorem t_X7_isOpen_111 {G : Cx} (hG : am_G G) (N : Nat) (σ : Sg) (r : Int32 × Sg) (h : b_X7_isOpen_111 N σ = some r) : am_Wp G mX7_isOpen 0 (am_qi r.1 r.2) 111 [none, none, none, none, none] [] σ := by
  intro K h0 X
  unfold b_X7_isOpen_111 at h
  refine am_iconst (v := (0 : Int32)) X dX7_isOpen_111 (by decide) ?_
  obtain rfl := Option.some.inj h
  exact am_zret X h0 dX7_isOpen_112 rfl (by decide) ⟨rfl, rfl⟩
set_option maxRecDepth 100000 in
set_option maxHeartbeats 4000000 in
theorem t_X7_isOpen_102 {G : Cx} (hG : am_G G) (N : Nat) (x4 : Int32) (σ : Sg) (r : Int32 × Sg) (h : b_X7_isOpen_102 N x4 σ = some r) : am_Wp G mX7_isOpen 0 (am_qi r.1 r.2) 102 [none, none, none, none, some (.int x4)] [] σ := by
  intro K h0 X
  unfold b_X7_isOpen_102 at h
  refine am_iload X dX7_isOpen_102 rfl ?_
  refine am_if_ne (tgt := 111) X dX7_isOpen_104 (by decide) (fun c => ?_) (fun c => ?_)
  · have h := if_f h c
    exact am_jump (t_X7_isOpen_111 hG N _ _ h K h0 X) rfl trivial
  · have h := if_t h c
    refine am_iconst (v := (1 : Int32)) X dX7_isOpen_107 (by decide) ?_
    refine am_goto (tgt := 112) X dX7_isOpen_108 (by decide) ?_
    obtain rfl := Option.some.inj h
    exact am_zret X h0 dX7_isOpen_112 rfl (by decide) ⟨rfl, rfl⟩
set_option maxRecDepth 100000 in
set_option maxHeartbeats 4000000 in
theorem t_X7_isOpen_73 {G : Cx} (hG : am_G G) (N : Nat) (x1 : Int32) (x2 : Int32) (x3 : Int32) (s0 : Int32) (σ : Sg) (r : Int32 × Sg) (h : b_X7_isOpen_73 N x1 x2 x3 s0 σ = some r) : am_Wp G mX7_isOpen 0 (am_qi r.1 r.2) 73 [some (.ref 60), some (.int x1), some (.int x2), some (.int x3), none] [.int s0] σ := by
  intro K h0 X
  unfold b_X7_isOpen_73 at h
  refine am_istore (ls' := [some (.ref 60), some (.int x1), some (.int x2), some (.int x3), some (.int s0)]) X dX7_isOpen_73 (by decide)  rfl rfl ?_
  refine am_aload_n X dX7_isOpen_75 rfl rfl ?_
  refine am_getf (v := .ref 61) X dX7_isOpen_76 fl_X7_9 rfl rfl (by decide) ?_
  refine am_bipush (v := (38 : Int32)) X dX7_isOpen_79 (by decide) ?_
  refine am_bipush (v := (7 : Int32)) X dX7_isOpen_81 (by decide) ?_
  refine am_iload_n X dX7_isOpen_83 rfl rfl ?_
  refine am_imul X dX7_isOpen_84 ?_
  refine am_iadd X dX7_isOpen_85 ?_
  refine am_iload_n X dX7_isOpen_86 rfl rfl ?_
  refine am_iadd X dX7_isOpen_87 ?_
  obtain ⟨g, h⟩ := gd_some h
  refine am_iald X dX7_isOpen_88 rfl g ?_
  refine am_iconst (v := (1 : Int32)) X dX7_isOpen_89 (by decide) ?_
  refine am_icmp_ne (tgt := 111) X dX7_isOpen_90 (by decide) (fun c => ?_) (fun c => ?_)
  · have h := if_f h c
    exact am_jump (t_X7_isOpen_111 hG N _ _ h K h0 X) rfl trivial
  · have h := if_t h c
    refine am_iload_n X dX7_isOpen_93 rfl rfl ?_
    refine am_if_eq (tgt := 102) X dX7_isOpen_94 (by decide) (fun c => ?_) (fun c => ?_)
    · have h := if_t h c
      exact am_jump (t_X7_isOpen_102 hG N _ _ _ h K h0 X) rfl ⟨rfl, trivial⟩
    · have h := if_f h c
      refine am_iload_n X dX7_isOpen_97 rfl rfl ?_
      refine am_iload_n X dX7_isOpen_98 rfl rfl ?_
      refine am_icmp_lt (tgt := 111) X dX7_isOpen_99 (by decide) (fun c => ?_) (fun c => ?_)
      · have h := if_t h c
        exact am_jump (t_X7_isOpen_111 hG N _ _ h K h0 X) rfl trivial
      · have h := if_f h c
        exact am_jump (t_X7_isOpen_102 hG N _ _ _ h K h0 X) rfl ⟨rfl, trivial⟩
set_option maxRecDepth 100000 in
set_option maxHeartbeats 4000000 in
theorem t_X7_isOpen_72 {G : Cx} (hG : am_G G) (N : Nat) (x1 : Int32) (x2 : Int32) (x3 : Int32) (σ : Sg) (r : Int32 × Sg) (h : b_X7_isOpen_72 N x1 x2 x3 σ = some r) : am_Wp G mX7_isOpen 0 (am_qi r.1 r.2) 72 [some (.ref 60), some (.int x1), some (.int x2), some (.int x3), none] [] σ := by
  intro K h0 X
  unfold b_X7_isOpen_72 at h
  refine am_iconst (v := (0 : Int32)) X dX7_isOpen_72 (by decide) ?_
  exact am_jump (t_X7_isOpen_73 hG N _ _ _ _ _ _ h K h0 X) rfl ⟨rfl, rfl, rfl, rfl, trivial⟩
set_option maxRecDepth 100000 in
set_option maxHeartbeats 4000000 in
theorem t_X7_isOpen_32 {G : Cx} (hG : am_G G) (N : Nat) (x1 : Int32) (x2 : Int32) (s0 : Int32) (σ : Sg) (r : Int32 × Sg) (h : b_X7_isOpen_32 N x1 x2 s0 σ = some r) : am_Wp G mX7_isOpen 0 (am_qi r.1 r.2) 32 [some (.ref 60), some (.int x1), some (.int x2), none, none] [.int s0] σ := by
  intro K h0 X
  unfold b_X7_isOpen_32 at h
  refine am_istore_n (ls' := [some (.ref 60), some (.int x1), some (.int x2), some (.int s0), none]) X dX7_isOpen_32 rfl (by decide)  rfl rfl ?_
  refine am_aload_n X dX7_isOpen_33 rfl rfl ?_
  refine am_getf (v := .ref 61) X dX7_isOpen_34 fl_X7_9 rfl rfl (by decide) ?_
  refine am_bipush (v := (10 : Int32)) X dX7_isOpen_37 (by decide) ?_
  refine am_iload_n X dX7_isOpen_39 rfl rfl ?_
  refine am_iadd X dX7_isOpen_40 ?_
  obtain ⟨g, h⟩ := gd_some h
  refine am_iald X dX7_isOpen_41 rfl g ?_
  refine am_bipush (v := (6 : Int32)) X dX7_isOpen_42 (by decide) ?_
  refine am_icmp_ne (tgt := 72) X dX7_isOpen_44 (by decide) (fun c => ?_) (fun c => ?_)
  · have h := if_f h c
    exact am_jump (t_X7_isOpen_72 hG N _ _ _ _ _ h K h0 X) rfl ⟨rfl, rfl, rfl, rfl, trivial⟩
  · have h := if_t h c
    refine am_aload_n X dX7_isOpen_47 rfl rfl ?_
    refine am_getf (v := .ref 61) X dX7_isOpen_48 fl_X7_9 rfl rfl (by decide) ?_
    refine am_iconst (v := (5 : Int32)) X dX7_isOpen_51 (by decide) ?_
    obtain ⟨g, h⟩ := gd_some h
    refine am_iald X dX7_isOpen_52 rfl g ?_
    refine am_aload_n X dX7_isOpen_53 rfl rfl ?_
    refine am_getf (v := .ref 61) X dX7_isOpen_54 fl_X7_9 rfl rfl (by decide) ?_
    refine am_bipush (v := (17 : Int32)) X dX7_isOpen_57 (by decide) ?_
    refine am_iload_n X dX7_isOpen_59 rfl rfl ?_
    refine am_iadd X dX7_isOpen_60 ?_
    obtain ⟨g, h⟩ := gd_some h
    refine am_iald X dX7_isOpen_61 rfl g ?_
    refine am_iconst (v := (2 : Int32)) X dX7_isOpen_62 (by decide) ?_
    refine am_iadd X dX7_isOpen_63 ?_
    obtain ⟨g, h⟩ := gd_some h
    refine am_irem X dX7_isOpen_64 (of_decide_eq_true g) ?_
    refine am_if_ne (tgt := 72) X dX7_isOpen_65 (by decide) (fun c => ?_) (fun c => ?_)
    · have h := if_f h c
      exact am_jump (t_X7_isOpen_72 hG N _ _ _ _ _ h K h0 X) rfl ⟨rfl, rfl, rfl, rfl, trivial⟩
    · have h := if_t h c
      refine am_iconst (v := (1 : Int32)) X dX7_isOpen_68 (by decide) ?_
      refine am_goto (tgt := 73) X dX7_isOpen_69 (by decide) ?_
      exact am_jump (t_X7_isOpen_73 hG N _ _ _ _ _ _ h K h0 X) rfl ⟨rfl, rfl, rfl, rfl, trivial⟩
set_option maxRecDepth 100000 in
set_option maxHeartbeats 4000000 in
theorem t_X7_isOpen_27 {G : Cx} (hG : am_G G) (N : Nat) (x1 : Int32) (x2 : Int32) (σ : Sg) (r : Int32 × Sg) (h : b_X7_isOpen_27 N x1 x2 σ = some r) : am_Wp G mX7_isOpen 0 (am_qi r.1 r.2) 27 [some (.ref 60), some (.int x1), some (.int x2), none, none] [] σ := by
  intro K h0 X
  unfold b_X7_isOpen_27 at h
  refine am_iconst (v := (1 : Int32)) X dX7_isOpen_27 (by decide) ?_
  refine am_goto (tgt := 32) X dX7_isOpen_28 (by decide) ?_
  exact am_jump (t_X7_isOpen_32 hG N _ _ _ _ _ h K h0 X) rfl ⟨rfl, rfl, rfl, trivial⟩
set_option maxRecDepth 100000 in
set_option maxHeartbeats 4000000 in
theorem ct_X7_isOpen {G : Cx} (hG : am_G G) (N : Nat) (x1 : Int32) (x2 : Int32) (σ : Sg) (r : Int32 × Sg) (h : f_X7_isOpen N x1 x2 σ = some r) : am_Ct G 1 yX7_isOpen mX7_isOpen [.ref 60, .int x1, .int x2] σ (am_qi r.1 r.2) := by
  refine am_enter hG rfl rfl (Nat.le_of_ble_eq_true rfl) ?_
  intro K h0 X
  unfold f_X7_isOpen at h
  refine am_jump (pc' := 0) (ls' := [some (.ref 60), some (.int x1), some (.int x2), none, none]) ?_ rfl ⟨rfl, rfl, rfl, trivial⟩
  refine am_aload_n X dX7_isOpen_0 rfl rfl ?_
  refine am_getf (v := .ref 61) X dX7_isOpen_1 fl_X7_9 rfl rfl (by decide) ?_
  refine am_bipush (v := (10 : Int32)) X dX7_isOpen_4 (by decide) ?_
  refine am_iload_n X dX7_isOpen_6 rfl rfl ?_
  refine am_iadd X dX7_isOpen_7 ?_
  obtain ⟨g, h⟩ := gd_some h
  refine am_iald X dX7_isOpen_8 rfl g ?_
  refine am_iconst (v := (3 : Int32)) X dX7_isOpen_9 (by decide) ?_
  refine am_icmp_eq (tgt := 27) X dX7_isOpen_10 (by decide) (fun c => ?_) (fun c => ?_)
  · have h := if_t h c
    exact am_jump (t_X7_isOpen_27 hG N _ _ _ _ h K h0 X) rfl ⟨rfl, rfl, rfl, trivial⟩
  · have h := if_f h c
    refine am_aload_n X dX7_isOpen_13 rfl rfl ?_
    refine am_getf (v := .ref 61) X dX7_isOpen_14 fl_X7_9 rfl rfl (by decide) ?_
    refine am_bipush (v := (10 : Int32)) X dX7_isOpen_17 (by decide) ?_
    refine am_iload_n X dX7_isOpen_19 rfl rfl ?_
    refine am_iadd X dX7_isOpen_20 ?_
    obtain ⟨g, h⟩ := gd_some h
    refine am_iald X dX7_isOpen_21 rfl g ?_
    refine am_bipush (v := (6 : Int32)) X dX7_isOpen_22 (by decide) ?_
    refine am_icmp_ne (tgt := 31) X dX7_isOpen_24 (by decide) (fun c => ?_) (fun c => ?_)
    · have h := if_f h c
      refine am_iconst (v := (0 : Int32)) X dX7_isOpen_31 (by decide) ?_
      exact am_jump (t_X7_isOpen_32 hG N _ _ _ _ _ h K h0 X) rfl ⟨rfl, rfl, rfl, trivial⟩
    · have h := if_t h c
      exact am_jump (t_X7_isOpen_27 hG N _ _ _ _ h K h0 X) rfl ⟨rfl, rfl, rfl, trivial⟩
set_option maxRecDepth 100000 in
set_option maxHeartbeats 4000000 in
theorem t_X7_looksForAll_87 {G : Cx} (hG : am_G G) (N : Nat) (k2 : Int32 → Sg → Option (Sg)) (k47 : Int32 → Int32 → Sg → Option (Sg)) (hk2 : ∀ (x1 : Int32) (σ : Sg) (r : Sg), k2 x1 σ = some r → am_Wp G mX7_looksForAll 3 (am_qv r) 2 [some (.ref 60), some (.int x1), none] [] σ) (hk47 : ∀ (x1 : Int32) (x2 : Int32) (σ : Sg) (r : Sg), k47 x1 x2 σ = some r → am_Wp G mX7_looksForAll 3 (am_qv r) 47 [some (.ref 60), some (.int x1), some (.int x2)] [] σ) (x1 : Int32) (x2 : Int32) (s1 : Int32) (s2 : Int32) (σ : Sg) (r : Sg) (h : b_X7_looksForAll_87 N k2 k47 x1 x2 s1 s2 σ = some r) : am_Wp G mX7_looksForAll 3 (am_qv r) 87 [some (.ref 60), some (.int x1), some (.int x2)] [.int s2, .int s1, .ref 76] σ := by
  intro K h0 X
  unfold b_X7_looksForAll_87 at h
  obtain ⟨g, h⟩ := gd_some h
  refine am_zast X dX7_looksForAll_87 rfl g ?_
  refine am_tops h (fun σ87 h => ?_)
  refine am_iinc (ls' := fun x2_88 => [some (.ref 60), some (.int x1), some (.int x2_88)]) X dX7_looksForAll_88 rfl h (by decide) (by decide) rfl (fun _ => rfl) (fun x2_88 h => ?_)
  refine am_goto (tgt := 47) X dX7_looksForAll_91 (by decide) ?_
  exact am_jump (hk47 _ _ _ _ h K h0 X) rfl ⟨rfl, rfl, rfl, trivial⟩
set_option maxRecDepth 100000 in
set_option maxHeartbeats 4000000 in
theorem t_X7_looksForAll_86 {G : Cx} (hG : am_G G) (N : Nat) (k2 : Int32 → Sg → Option (Sg)) (k47 : Int32 → Int32 → Sg → Option (Sg)) (hk2 : ∀ (x1 : Int32) (σ : Sg) (r : Sg), k2 x1 σ = some r → am_Wp G mX7_looksForAll 3 (am_qv r) 2 [some (.ref 60), some (.int x1), none] [] σ) (hk47 : ∀ (x1 : Int32) (x2 : Int32) (σ : Sg) (r : Sg), k47 x1 x2 σ = some r → am_Wp G mX7_looksForAll 3 (am_qv r) 47 [some (.ref 60), some (.int x1), some (.int x2)] [] σ) (x1 : Int32) (x2 : Int32) (s1 : Int32) (σ : Sg) (r : Sg) (h : b_X7_looksForAll_86 N k2 k47 x1 x2 s1 σ = some r) : am_Wp G mX7_looksForAll 3 (am_qv r) 86 [some (.ref 60), some (.int x1), some (.int x2)] [.int s1, .ref 76] σ := by
  intro K h0 X
  unfold b_X7_looksForAll_86 at h
  refine am_iconst (v := (0 : Int32)) X dX7_looksForAll_86 (by decide) ?_
  exact am_jump (t_X7_looksForAll_87 hG N k2 k47 hk2 hk47 _ _ _ _ _ _ h K h0 X) rfl ⟨rfl, rfl, rfl, trivial⟩
set_option maxRecDepth 100000 in
set_option maxHeartbeats 4000000 in
theorem t_X7_looksForAll_47b {G : Cx} (hG : am_G G) (N : Nat) (k2 : Int32 → Sg → Option (Sg)) (k47 : Int32 → Int32 → Sg → Option (Sg)) (hk2 : ∀ (x1 : Int32) (σ : Sg) (r : Sg), k2 x1 σ = some r → am_Wp G mX7_looksForAll 3 (am_qv r) 2 [some (.ref 60), some (.int x1), none] [] σ) (hk47 : ∀ (x1 : Int32) (x2 : Int32) (σ : Sg) (r : Sg), k47 x1 x2 σ = some r → am_Wp G mX7_looksForAll 3 (am_qv r) 47 [some (.ref 60), some (.int x1), some (.int x2)] [] σ) (x1 : Int32) (x2 : Int32) (σ : Sg) (r : Sg) (h : b_X7_looksForAll_47b N k2 k47 x1 x2 σ = some r) : am_Wp G mX7_looksForAll 3 (am_qv r) 47 [some (.ref 60), some (.int x1), some (.int x2)] [] σ := by
  intro K h0 X
  unfold b_X7_looksForAll_47b at h
  refine am_iload_n X dX7_looksForAll_47 rfl rfl ?_
  refine am_bipush (v := (7 : Int32)) X dX7_looksForAll_48 (by decide) ?_
  refine am_icmp_ge (tgt := 94) X dX7_looksForAll_50 (by decide) (fun c => ?_) (fun c => ?_)
  · have h := if_t h c
    refine am_iinc (ls' := fun x1_94 => [some (.ref 60), some (.int x1_94), some (.int x2)]) X dX7_looksForAll_94 rfl h (by decide) (by decide) rfl (fun _ => rfl) (fun x1_94 h => ?_)
    refine am_goto (tgt := 2) X dX7_looksForAll_97 (by decide) ?_
    exact am_jump (hk2 _ _ _ h K h0 X) rfl ⟨rfl, rfl, trivial⟩
  · have h := if_f h c
    refine am_aload_n X dX7_looksForAll_53 rfl rfl ?_
    refine am_getf (v := .ref 76) X dX7_looksForAll_54 fl_X7_58 rfl rfl (by decide) ?_
    refine am_bipush (v := (7 : Int32)) X dX7_looksForAll_57 (by decide) ?_
    refine am_iload_n X dX7_looksForAll_59 rfl rfl ?_
    refine am_imul X dX7_looksForAll_60 ?_
    refine am_iload_n X dX7_looksForAll_61 rfl rfl ?_
    refine am_iadd X dX7_looksForAll_62 ?_
    refine am_iload_n X dX7_looksForAll_63 rfl rfl ?_
    refine am_aload_n X dX7_looksForAll_64 rfl rfl ?_
    refine am_getf (v := .ref 61) X dX7_looksForAll_65 fl_X7_9 rfl rfl (by decide) ?_
    refine am_iconst (v := (0 : Int32)) X dX7_looksForAll_68 (by decide) ?_
    obtain ⟨g, h⟩ := gd_some h
    refine am_iald X dX7_looksForAll_69 rfl g ?_
    refine am_icmp_ge (tgt := 86) X dX7_looksForAll_70 (by decide) (fun c => ?_) (fun c => ?_)
    · have h := if_t h c
      exact am_jump (t_X7_looksForAll_86 hG N k2 k47 hk2 hk47 _ _ _ _ _ h K h0 X) rfl ⟨rfl, rfl, rfl, trivial⟩
    · have h := if_f h c
      refine am_aload_n X dX7_looksForAll_73 rfl rfl ?_
      refine am_iload_n X dX7_looksForAll_74 rfl rfl ?_
      refine am_iload_n X dX7_looksForAll_75 rfl rfl ?_
      obtain ⟨v76, σ76, hc, h⟩ := bd2_some h
      refine am_callv_i2 X dX7_looksForAll_76 cw_X7_165 (ct_X7_isOpen hG N _ _ _ _ hc) (Nat.le_of_ble_eq_true rfl) rfl rfl rfl rfl (Nat.le_of_ble_eq_true rfl) ?_
      refine am_if_eq (tgt := 86) X dX7_looksForAll_79 (by decide) (fun c => ?_) (fun c => ?_)
      · have h := if_t h c
        exact am_jump (t_X7_looksForAll_86 hG N k2 k47 hk2 hk47 _ _ _ _ _ h K h0 X) rfl ⟨rfl, rfl, rfl, trivial⟩
      · have h := if_f h c
        refine am_iconst (v := (1 : Int32)) X dX7_looksForAll_82 (by decide) ?_
        refine am_goto (tgt := 87) X dX7_looksForAll_83 (by decide) ?_
        exact am_jump (t_X7_looksForAll_87 hG N k2 k47 hk2 hk47 _ _ _ _ _ _ h K h0 X) rfl ⟨rfl, rfl, rfl, trivial⟩
set_option maxRecDepth 100000 in
set_option maxHeartbeats 4000000 in
theorem t_X7_looksForAll_47 {G : Cx} (hG : am_G G) (N : Nat) (k2 : Int32 → Sg → Option (Sg)) (hk2 : ∀ (x1 : Int32) (σ : Sg) (r : Sg), k2 x1 σ = some r → am_Wp G mX7_looksForAll 3 (am_qv r) 2 [some (.ref 60), some (.int x1), none] [] σ) : ∀ (n : Nat) (x1 : Int32) (x2 : Int32) (σ : Sg) (r : Sg), b_X7_looksForAll_47 N k2 n x1 x2 σ = some r → am_Wp G mX7_looksForAll 3 (am_qv r) 47 [some (.ref 60), some (.int x1), some (.int x2)] [] σ := by
  intro n
  induction n with
  | zero => intro x1 x2 σ r h; cases h
  | succ n ih => intro x1 x2 σ r h; exact t_X7_looksForAll_47b hG N k2 (b_X7_looksForAll_47 N k2 n) hk2 ih x1 x2 σ r h
set_option maxRecDepth 100000 in
set_option maxHeartbeats 4000000 in
theorem t_X7_looksForAll_2b {G : Cx} (hG : am_G G) (N : Nat) (k2 : Int32 → Sg → Option (Sg)) (hk2 : ∀ (x1 : Int32) (σ : Sg) (r : Sg), k2 x1 σ = some r → am_Wp G mX7_looksForAll 3 (am_qv r) 2 [some (.ref 60), some (.int x1), none] [] σ) (x1 : Int32) (σ : Sg) (r : Sg) (h : b_X7_looksForAll_2b N k2 x1 σ = some r) : am_Wp G mX7_looksForAll 3 (am_qv r) 2 [some (.ref 60), some (.int x1), none] [] σ := by
  intro K h0 X
  unfold b_X7_looksForAll_2b at h
  refine am_iload_n X dX7_looksForAll_2 rfl rfl ?_
  refine am_aload_n X dX7_looksForAll_3 rfl rfl ?_
  refine am_getf (v := .ref 61) X dX7_looksForAll_4 fl_X7_9 rfl rfl (by decide) ?_
  refine am_iconst (v := (0 : Int32)) X dX7_looksForAll_7 (by decide) ?_
  obtain ⟨g, h⟩ := gd_some h
  refine am_iald X dX7_looksForAll_8 rfl g ?_
  refine am_icmp_ge (tgt := 100) X dX7_looksForAll_9 (by decide) (fun c => ?_) (fun c => ?_)
  · have h := if_t h c
    obtain rfl := Option.some.inj h
    exact am_vret X h0 dX7_looksForAll_100 rfl ⟨rfl, rfl⟩
  · have h := if_f h c
    refine am_aload_n X dX7_looksForAll_12 rfl rfl ?_
    refine am_getf (v := .ref 73) X dX7_looksForAll_13 fl_X7_49 rfl rfl (by decide) ?_
    refine am_iload_n X dX7_looksForAll_16 rfl rfl ?_
    refine am_aload_n X dX7_looksForAll_17 rfl rfl ?_
    refine am_iload_n X dX7_looksForAll_18 rfl rfl ?_
    obtain ⟨v19, σ19, hc, h⟩ := bd2_some h
    refine am_callv_i1 X dX7_looksForAll_19 cw_X7_194 (ct_X7_allowedOf hG N _ _ _ hc) (Nat.le_of_ble_eq_true rfl) rfl rfl rfl rfl (Nat.le_of_ble_eq_true rfl) ?_
    obtain ⟨g, h⟩ := gd_some h
    refine am_iast X dX7_looksForAll_22 rfl g ?_
    refine am_tops h (fun σ22 h => ?_)
    refine am_aload_n X dX7_looksForAll_23 rfl rfl ?_
    refine am_getf (v := .ref 74) X dX7_looksForAll_24 fl_X7_52 rfl rfl (by decide) ?_
    refine am_iload_n X dX7_looksForAll_27 rfl rfl ?_
    refine am_aload_n X dX7_looksForAll_28 rfl rfl ?_
    refine am_iload_n X dX7_looksForAll_29 rfl rfl ?_
    obtain ⟨v30, σ30, hc, h⟩ := bd2_some h
    refine am_callv_i1 X dX7_looksForAll_30 cw_X7_197 (ct_X7_fineOf hG N _ _ _ hc) (Nat.le_of_ble_eq_true rfl) rfl rfl rfl rfl (Nat.le_of_ble_eq_true rfl) ?_
    obtain ⟨g, h⟩ := gd_some h
    refine am_iast X dX7_looksForAll_33 rfl g ?_
    refine am_tops h (fun σ33 h => ?_)
    refine am_aload_n X dX7_looksForAll_34 rfl rfl ?_
    refine am_getf (v := .ref 75) X dX7_looksForAll_35 fl_X7_55 rfl rfl (by decide) ?_
    refine am_iload_n X dX7_looksForAll_38 rfl rfl ?_
    refine am_aload_n X dX7_looksForAll_39 rfl rfl ?_
    refine am_iload_n X dX7_looksForAll_40 rfl rfl ?_
    obtain ⟨v41, σ41, hc, h⟩ := bd2_some h
    refine am_callv_i1 X dX7_looksForAll_41 cw_X7_201 (ct_X7_stepOf hG N _ _ _ hc) (Nat.le_of_ble_eq_true rfl) rfl rfl rfl rfl (Nat.le_of_ble_eq_true rfl) ?_
    obtain ⟨g, h⟩ := gd_some h
    refine am_iast X dX7_looksForAll_44 rfl g ?_
    refine am_tops h (fun σ44 h => ?_)
    refine am_iconst (v := (0 : Int32)) X dX7_looksForAll_45 (by decide) ?_
    refine am_istore_n (ls' := [some (.ref 60), some (.int x1), some (.int (0 : Int32))]) X dX7_looksForAll_46 rfl (by decide)  rfl rfl ?_
    exact am_jump (t_X7_looksForAll_47 hG N k2 hk2 N _ _ _ _ h K h0 X) rfl ⟨rfl, rfl, rfl, trivial⟩
set_option maxRecDepth 100000 in
set_option maxHeartbeats 4000000 in
theorem t_X7_looksForAll_2 {G : Cx} (hG : am_G G) (N : Nat) : ∀ (n : Nat) (x1 : Int32) (σ : Sg) (r : Sg), b_X7_looksForAll_2 N n x1 σ = some r → am_Wp G mX7_looksForAll 3 (am_qv r) 2 [some (.ref 60), some (.int x1), none] [] σ := by
  intro n
  induction n with
  | zero => intro x1 σ r h; cases h
  | succ n ih => intro x1 σ r h; exact t_X7_looksForAll_2b hG N (b_X7_looksForAll_2 N n) ih x1 σ r h
set_option maxRecDepth 100000 in
set_option maxHeartbeats 4000000 in
theorem ct_X7_looksForAll {G : Cx} (hG : am_G G) (N : Nat) (σ : Sg) (r : Sg) (h : f_X7_looksForAll N σ = some r) : am_Ct G 4 yX7_looksForAll mX7_looksForAll [.ref 60] σ (am_qv r) := by
  refine am_enter hG rfl rfl (Nat.le_of_ble_eq_true rfl) ?_
  intro K h0 X
  unfold f_X7_looksForAll at h
  refine am_jump (pc' := 0) (ls' := [some (.ref 60), none, none]) ?_ rfl ⟨rfl, trivial⟩
  refine am_iconst (v := (0 : Int32)) X dX7_looksForAll_0 (by decide) ?_
  refine am_istore_n (ls' := [some (.ref 60), some (.int (0 : Int32)), none]) X dX7_looksForAll_1 rfl (by decide)  rfl rfl ?_
  exact am_jump (t_X7_looksForAll_2 hG N N _ _ _ h K h0 X) rfl ⟨rfl, rfl, trivial⟩
set_option maxRecDepth 100000 in
set_option maxHeartbeats 4000000 in
theorem ct_X7_road {G : Cx} (hG : am_G G) (N : Nat) (x1 : Int32) (x2 : Int32) (x3 : Int32) (x4 : Int32) (σ : Sg) (r : Sg) (h : f_X7_road N x1 x2 x3 x4 σ = some r) : am_Ct G 1 yX7_road mX7_road [.ref 60, .int x1, .int x2, .int x3, .int x4] σ (am_qv r) := by
  refine am_enter hG rfl rfl (Nat.le_of_ble_eq_true rfl) ?_
  intro K h0 X
  unfold f_X7_road at h
  refine am_jump (pc' := 0) (ls' := [some (.ref 60), some (.int x1), some (.int x2), some (.int x3), some (.int x4)]) ?_ rfl ⟨rfl, rfl, rfl, rfl, rfl, trivial⟩
  refine am_aload_n X dX7_road_0 rfl rfl ?_
  refine am_getf (v := .ref 65) X dX7_road_1 fl_X7_25 rfl rfl (by decide) ?_
  refine am_aload_n X dX7_road_4 rfl rfl ?_
  refine am_getf (v := .int (rg σ 60 19)) X dX7_road_5 fl_X7_215 rfl rfl (by decide) ?_
  refine am_iload_n X dX7_road_8 rfl rfl ?_
  obtain ⟨g, h⟩ := gd_some h
  refine am_iast X dX7_road_9 rfl g ?_
  refine am_tops h (fun σ9 h => ?_)
  refine am_aload_n X dX7_road_10 rfl rfl ?_
  refine am_getf (v := .ref 66) X dX7_road_11 fl_X7_28 rfl rfl (by decide) ?_
  refine am_aload_n X dX7_road_14 rfl rfl ?_
  refine am_getf (v := .int (rg σ9 60 19)) X dX7_road_15 fl_X7_215 rfl rfl (by decide) ?_
  refine am_iload_n X dX7_road_18 rfl rfl ?_
  obtain ⟨g, h⟩ := gd_some h
  refine am_iast X dX7_road_19 rfl g ?_
  refine am_tops h (fun σ19 h => ?_)
  refine am_aload_n X dX7_road_20 rfl rfl ?_
  refine am_getf (v := .ref 67) X dX7_road_21 fl_X7_31 rfl rfl (by decide) ?_
  refine am_aload_n X dX7_road_24 rfl rfl ?_
  refine am_getf (v := .int (rg σ19 60 19)) X dX7_road_25 fl_X7_215 rfl rfl (by decide) ?_
  refine am_iload_n X dX7_road_28 rfl rfl ?_
  obtain ⟨g, h⟩ := gd_some h
  refine am_iast X dX7_road_29 rfl g ?_
  refine am_tops h (fun σ29 h => ?_)
  refine am_aload_n X dX7_road_30 rfl rfl ?_
  refine am_getf (v := .ref 68) X dX7_road_31 fl_X7_34 rfl rfl (by decide) ?_
  refine am_aload_n X dX7_road_34 rfl rfl ?_
  refine am_getf (v := .int (rg σ29 60 19)) X dX7_road_35 fl_X7_215 rfl rfl (by decide) ?_
  refine am_iload X dX7_road_38 rfl ?_
  obtain ⟨g, h⟩ := gd_some h
  refine am_iast X dX7_road_40 rfl g ?_
  refine am_tops h (fun σ40 h => ?_)
  refine am_aload_n X dX7_road_41 rfl rfl ?_
  refine am_getf (v := .ref 69) X dX7_road_42 fl_X7_37 rfl rfl (by decide) ?_
  refine am_aload_n X dX7_road_45 rfl rfl ?_
  refine am_getf (v := .int (rg σ40 60 19)) X dX7_road_46 fl_X7_215 rfl rfl (by decide) ?_
  refine am_iconst (v := (0 : Int32)) X dX7_road_49 (by decide) ?_
  obtain ⟨g, h⟩ := gd_some h
  refine am_iast X dX7_road_50 rfl g ?_
  refine am_tops h (fun σ50 h => ?_)
  refine am_aload_n X dX7_road_51 rfl rfl ?_
  refine am_dup X dX7_road_52 rfl ?_
  refine am_getf (v := .int (rg σ50 60 19)) X dX7_road_53 fl_X7_215 rfl rfl (by decide) ?_
  refine am_iconst (v := (1 : Int32)) X dX7_road_56 (by decide) ?_
  refine am_iadd X dX7_road_57 ?_
  refine am_putfi X dX7_road_58 fp_X7_215 rfl rfl ?_
  refine am_tops h (fun σ58 h => ?_)
  obtain rfl := Option.some.inj h
  exact am_vret X h0 dX7_road_61 rfl ⟨rfl, rfl⟩
set_option maxRecDepth 100000 in
set_option maxHeartbeats 4000000 in
theorem t_X7_looksForRoads_159 {G : Cx} (hG : am_G G) (N : Nat) (k15 : Int32 → Int32 → Sg → Option (Sg)) (hk15 : ∀ (x1 : Int32) (x2 : Int32) (σ : Sg) (r : Sg), k15 x1 x2 σ = some r → am_Wp G mX7_looksForRoads 1 (am_qv r) 15 [some (.ref 60), some (.int x1), some (.int x2), none] [] σ) (x1 : Int32) (x2 : Int32) (σ : Sg) (r : Sg) (h : b_X7_looksForRoads_159 N k15 x1 x2 σ = some r) : am_Wp G mX7_looksForRoads 1 (am_qv r) 159 [some (.ref 60), some (.int x1), some (.int x2), none] [] σ := by
  intro K h0 X
  unfold b_X7_looksForRoads_159 at h
  refine am_iinc (ls' := fun x2_159 => [some (.ref 60), some (.int x1), some (.int x2_159), none]) X dX7_looksForRoads_159 rfl h (by decide) (by decide) rfl (fun _ => rfl) (fun x2_159 h => ?_)
  refine am_goto (tgt := 15) X dX7_looksForRoads_162 (by decide) ?_
  exact am_jump (hk15 _ _ _ _ h K h0 X) rfl ⟨rfl, rfl, rfl, trivial⟩
set_option maxRecDepth 100000 in
set_option maxHeartbeats 4000000 in
theorem t_X7_looksForRoads_91 {G : Cx} (hG : am_G G) (N : Nat) (k15 : Int32 → Int32 → Sg → Option (Sg)) (k53 : Int32 → Int32 → Int32 → Sg → Option (Sg)) (hk15 : ∀ (x1 : Int32) (x2 : Int32) (σ : Sg) (r : Sg), k15 x1 x2 σ = some r → am_Wp G mX7_looksForRoads 1 (am_qv r) 15 [some (.ref 60), some (.int x1), some (.int x2), none] [] σ) (hk53 : ∀ (x1 : Int32) (x2 : Int32) (x3 : Int32) (σ : Sg) (r : Sg), k53 x1 x2 x3 σ = some r → am_Wp G mX7_looksForRoads 1 (am_qv r) 53 [some (.ref 60), some (.int x1), some (.int x2), some (.int x3)] [] σ) (x1 : Int32) (x2 : Int32) (x3 : Int32) (σ : Sg) (r : Sg) (h : b_X7_looksForRoads_91 N k15 k53 x1 x2 x3 σ = some r) : am_Wp G mX7_looksForRoads 1 (am_qv r) 91 [some (.ref 60), some (.int x1), some (.int x2), some (.int x3)] [] σ := by
  intro K h0 X
  unfold b_X7_looksForRoads_91 at h
  refine am_iinc (ls' := fun x3_91 => [some (.ref 60), some (.int x1), some (.int x2), some (.int x3_91)]) X dX7_looksForRoads_91 rfl h (by decide) (by decide) rfl (fun _ => rfl) (fun x3_91 h => ?_)
  refine am_goto (tgt := 53) X dX7_looksForRoads_94 (by decide) ?_
  exact am_jump (hk53 _ _ _ _ _ h K h0 X) rfl ⟨rfl, rfl, rfl, rfl, trivial⟩
set_option maxRecDepth 100000 in
set_option maxHeartbeats 4000000 in
theorem t_X7_looksForRoads_53b {G : Cx} (hG : am_G G) (N : Nat) (k15 : Int32 → Int32 → Sg → Option (Sg)) (k53 : Int32 → Int32 → Int32 → Sg → Option (Sg)) (hk15 : ∀ (x1 : Int32) (x2 : Int32) (σ : Sg) (r : Sg), k15 x1 x2 σ = some r → am_Wp G mX7_looksForRoads 1 (am_qv r) 15 [some (.ref 60), some (.int x1), some (.int x2), none] [] σ) (hk53 : ∀ (x1 : Int32) (x2 : Int32) (x3 : Int32) (σ : Sg) (r : Sg), k53 x1 x2 x3 σ = some r → am_Wp G mX7_looksForRoads 1 (am_qv r) 53 [some (.ref 60), some (.int x1), some (.int x2), some (.int x3)] [] σ) (x1 : Int32) (x2 : Int32) (x3 : Int32) (σ : Sg) (r : Sg) (h : b_X7_looksForRoads_53b N k15 k53 x1 x2 x3 σ = some r) : am_Wp G mX7_looksForRoads 1 (am_qv r) 53 [some (.ref 60), some (.int x1), some (.int x2), some (.int x3)] [] σ := by
  intro K h0 X
  unfold b_X7_looksForRoads_53b at h
  refine am_iload_n X dX7_looksForRoads_53 rfl rfl ?_
  refine am_aload_n X dX7_looksForRoads_54 rfl rfl ?_
  refine am_getf (v := .ref 61) X dX7_looksForRoads_55 fl_X7_9 rfl rfl (by decide) ?_
  refine am_iconst (v := (0 : Int32)) X dX7_looksForRoads_58 (by decide) ?_
  obtain ⟨g, h⟩ := gd_some h
  refine am_iald X dX7_looksForRoads_59 rfl g ?_
  refine am_icmp_ge (tgt := 97) X dX7_looksForRoads_60 (by decide) (fun c => ?_) (fun c => ?_)
  · have h := if_t h c
    refine am_aload_n X dX7_looksForRoads_97 rfl rfl ?_
    refine am_iload_n X dX7_looksForRoads_98 rfl rfl ?_
    refine am_bipush (v := (7 : Int32)) X dX7_looksForRoads_99 (by decide) ?_
    refine am_iconst (v := (0 : Int32)) X dX7_looksForRoads_101 (by decide) ?_
    refine am_aload_n X dX7_looksForRoads_102 rfl rfl ?_
    refine am_getf (v := .ref 73) X dX7_looksForRoads_103 fl_X7_49 rfl rfl (by decide) ?_
    refine am_iload_n X dX7_looksForRoads_106 rfl rfl ?_
    obtain ⟨g, h⟩ := gd_some h
    refine am_iald X dX7_looksForRoads_107 rfl g ?_
    obtain ⟨σ108, hc, h⟩ := bd_some h
    refine am_callv_v4 X dX7_looksForRoads_108 cw_X7_219 (ct_X7_road hG N _ _ _ _ _ _ hc) (Nat.le_of_ble_eq_true rfl) rfl rfl rfl rfl (Nat.le_of_ble_eq_true rfl) ?_
    refine am_aload_n X dX7_looksForRoads_111 rfl rfl ?_
    refine am_bipush (v := (7 : Int32)) X dX7_looksForRoads_112 (by decide) ?_
    refine am_iload_n X dX7_looksForRoads_114 rfl rfl ?_
    refine am_iconst (v := (0 : Int32)) X dX7_looksForRoads_115 (by decide) ?_
    refine am_aload_n X dX7_looksForRoads_116 rfl rfl ?_
    refine am_getf (v := .ref 73) X dX7_looksForRoads_117 fl_X7_49 rfl rfl (by decide) ?_
    refine am_iload_n X dX7_looksForRoads_120 rfl rfl ?_
    obtain ⟨g, h⟩ := gd_some h
    refine am_iald X dX7_looksForRoads_121 rfl g ?_
    obtain ⟨σ122, hc, h⟩ := bd_some h
    refine am_callv_v4 X dX7_looksForRoads_122 cw_X7_219 (ct_X7_road hG N _ _ _ _ _ _ hc) (Nat.le_of_ble_eq_true rfl) rfl rfl rfl rfl (Nat.le_of_ble_eq_true rfl) ?_
    refine am_iload_n X dX7_looksForRoads_125 rfl rfl ?_
    refine am_if_eq (tgt := 159) X dX7_looksForRoads_126 (by decide) (fun c => ?_) (fun c => ?_)
    · have h := if_t h c
      exact am_jump (t_X7_looksForRoads_159 hG N k15 hk15 _ _ _ _ h K h0 X) rfl ⟨rfl, rfl, rfl, trivial⟩
    · have h := if_f h c
      refine am_aload_n X dX7_looksForRoads_129 rfl rfl ?_
      refine am_iload_n X dX7_looksForRoads_130 rfl rfl ?_
      refine am_bipush (v := (7 : Int32)) X dX7_looksForRoads_131 (by decide) ?_
      refine am_aload_n X dX7_looksForRoads_133 rfl rfl ?_
      refine am_getf (v := .ref 74) X dX7_looksForRoads_134 fl_X7_52 rfl rfl (by decide) ?_
      refine am_iload_n X dX7_looksForRoads_137 rfl rfl ?_
      obtain ⟨g, h⟩ := gd_some h
      refine am_iald X dX7_looksForRoads_138 rfl g ?_
      refine am_ldc (v := (1000000000 : Int32)) X dX7_looksForRoads_139 (wm_r27 _ (List.mem_of_getElem? (i := 1) rfl)) ?_
      obtain ⟨σ141, hc, h⟩ := bd_some h
      refine am_callv_v4 X dX7_looksForRoads_141 cw_X7_219 (ct_X7_road hG N _ _ _ _ _ _ hc) (Nat.le_of_ble_eq_true rfl) rfl rfl rfl rfl (Nat.le_of_ble_eq_true rfl) ?_
      refine am_aload_n X dX7_looksForRoads_144 rfl rfl ?_
      refine am_bipush (v := (7 : Int32)) X dX7_looksForRoads_145 (by decide) ?_
      refine am_iload_n X dX7_looksForRoads_147 rfl rfl ?_
      refine am_aload_n X dX7_looksForRoads_148 rfl rfl ?_
      refine am_getf (v := .ref 74) X dX7_looksForRoads_149 fl_X7_52 rfl rfl (by decide) ?_
      refine am_iload_n X dX7_looksForRoads_152 rfl rfl ?_
      obtain ⟨g, h⟩ := gd_some h
      refine am_iald X dX7_looksForRoads_153 rfl g ?_
      refine am_ldc (v := (1000000000 : Int32)) X dX7_looksForRoads_154 (wm_r27 _ (List.mem_of_getElem? (i := 1) rfl)) ?_
      obtain ⟨σ156, hc, h⟩ := bd_some h
      refine am_callv_v4 X dX7_looksForRoads_156 cw_X7_219 (ct_X7_road hG N _ _ _ _ _ _ hc) (Nat.le_of_ble_eq_true rfl) rfl rfl rfl rfl (Nat.le_of_ble_eq_true rfl) ?_
      exact am_jump (t_X7_looksForRoads_159 hG N k15 hk15 _ _ _ _ h K h0 X) rfl ⟨rfl, rfl, rfl, trivial⟩
  · have h := if_f h c
    refine am_aload_n X dX7_looksForRoads_63 rfl rfl ?_
    refine am_getf (v := .ref 76) X dX7_looksForRoads_64 fl_X7_58 rfl rfl (by decide) ?_
    refine am_bipush (v := (7 : Int32)) X dX7_looksForRoads_67 (by decide) ?_
    refine am_iload_n X dX7_looksForRoads_69 rfl rfl ?_
    refine am_imul X dX7_looksForRoads_70 ?_
    refine am_iload_n X dX7_looksForRoads_71 rfl rfl ?_
    refine am_iadd X dX7_looksForRoads_72 ?_
    obtain ⟨g, h⟩ := gd_some h
    refine am_zald X dX7_looksForRoads_73 rfl g ?_
    refine am_if_eq (tgt := 91) X dX7_looksForRoads_74 (by decide) (fun c => ?_) (fun c => ?_)
    · have h := if_t h c
      exact am_jump (t_X7_looksForRoads_91 hG N k15 k53 hk15 hk53 _ _ _ _ _ h K h0 X) rfl ⟨rfl, rfl, rfl, rfl, trivial⟩
    · have h := if_f h c
      refine am_aload_n X dX7_looksForRoads_77 rfl rfl ?_
      refine am_iload_n X dX7_looksForRoads_78 rfl rfl ?_
      refine am_iload_n X dX7_looksForRoads_79 rfl rfl ?_
      refine am_aload_n X dX7_looksForRoads_80 rfl rfl ?_
      refine am_getf (v := .ref 75) X dX7_looksForRoads_81 fl_X7_55 rfl rfl (by decide) ?_
      refine am_iload_n X dX7_looksForRoads_84 rfl rfl ?_
      obtain ⟨g, h⟩ := gd_some h
      refine am_iald X dX7_looksForRoads_85 rfl g ?_
      refine am_ldc (v := (1000000000 : Int32)) X dX7_looksForRoads_86 (wm_r27 _ (List.mem_of_getElem? (i := 1) rfl)) ?_
      obtain ⟨σ88, hc, h⟩ := bd_some h
      refine am_callv_v4 X dX7_looksForRoads_88 cw_X7_219 (ct_X7_road hG N _ _ _ _ _ _ hc) (Nat.le_of_ble_eq_true rfl) rfl rfl rfl rfl (Nat.le_of_ble_eq_true rfl) ?_
      exact am_jump (t_X7_looksForRoads_91 hG N k15 k53 hk15 hk53 _ _ _ _ _ h K h0 X) rfl ⟨rfl, rfl, rfl, rfl, trivial⟩
set_option maxRecDepth 100000 in
set_option maxHeartbeats 4000000 in
theorem t_X7_looksForRoads_53 {G : Cx} (hG : am_G G) (N : Nat) (k15 : Int32 → Int32 → Sg → Option (Sg)) (hk15 : ∀ (x1 : Int32) (x2 : Int32) (σ : Sg) (r : Sg), k15 x1 x2 σ = some r → am_Wp G mX7_looksForRoads 1 (am_qv r) 15 [some (.ref 60), some (.int x1), some (.int x2), none] [] σ) : ∀ (n : Nat) (x1 : Int32) (x2 : Int32) (x3 : Int32) (σ : Sg) (r : Sg), b_X7_looksForRoads_53 N k15 n x1 x2 x3 σ = some r → am_Wp G mX7_looksForRoads 1 (am_qv r) 53 [some (.ref 60), some (.int x1), some (.int x2), some (.int x3)] [] σ := by
  intro n
  induction n with
  | zero => intro x1 x2 x3 σ r h; cases h
  | succ n ih => intro x1 x2 x3 σ r h; exact t_X7_looksForRoads_53b hG N k15 (b_X7_looksForRoads_53 N k15 n) hk15 ih x1 x2 x3 σ r h
set_option maxRecDepth 100000 in
set_option maxHeartbeats 4000000 in
theorem t_X7_looksForRoads_15b {G : Cx} (hG : am_G G) (N : Nat) (k15 : Int32 → Int32 → Sg → Option (Sg)) (hk15 : ∀ (x1 : Int32) (x2 : Int32) (σ : Sg) (r : Sg), k15 x1 x2 σ = some r → am_Wp G mX7_looksForRoads 1 (am_qv r) 15 [some (.ref 60), some (.int x1), some (.int x2), none] [] σ) (x1 : Int32) (x2 : Int32) (σ : Sg) (r : Sg) (h : b_X7_looksForRoads_15b N k15 x1 x2 σ = some r) : am_Wp G mX7_looksForRoads 1 (am_qv r) 15 [some (.ref 60), some (.int x1), some (.int x2), none] [] σ := by
  intro K h0 X
  unfold b_X7_looksForRoads_15b at h
  refine am_iload_n X dX7_looksForRoads_15 rfl rfl ?_
  refine am_aload_n X dX7_looksForRoads_16 rfl rfl ?_
  refine am_getf (v := .ref 61) X dX7_looksForRoads_17 fl_X7_9 rfl rfl (by decide) ?_
  refine am_iconst (v := (0 : Int32)) X dX7_looksForRoads_20 (by decide) ?_
  obtain ⟨g, h⟩ := gd_some h
  refine am_iald X dX7_looksForRoads_21 rfl g ?_
  refine am_icmp_ge (tgt := 165) X dX7_looksForRoads_22 (by decide) (fun c => ?_) (fun c => ?_)
  · have h := if_t h c
    obtain rfl := Option.some.inj h
    exact am_vret X h0 dX7_looksForRoads_165 rfl ⟨rfl, rfl⟩
  · have h := if_f h c
    refine am_aload_n X dX7_looksForRoads_25 rfl rfl ?_
    refine am_getf (v := .ref 70) X dX7_looksForRoads_26 fl_X7_40 rfl rfl (by decide) ?_
    refine am_iload_n X dX7_looksForRoads_29 rfl rfl ?_
    refine am_aload_n X dX7_looksForRoads_30 rfl rfl ?_
    refine am_iload_n X dX7_looksForRoads_31 rfl rfl ?_
    obtain ⟨v32, σ32, hc, h⟩ := bd2_some h
    refine am_callv_i1 X dX7_looksForRoads_32 cw_X7_169 (ct_X7_uneven hG N _ _ _ hc) (Nat.le_of_ble_eq_true rfl) rfl rfl rfl rfl (Nat.le_of_ble_eq_true rfl) ?_
    obtain ⟨g, h⟩ := gd_some h
    refine am_iast X dX7_looksForRoads_35 rfl g ?_
    refine am_tops h (fun σ35 h => ?_)
    refine am_aload_n X dX7_looksForRoads_36 rfl rfl ?_
    refine am_getf (v := .ref 70) X dX7_looksForRoads_37 fl_X7_40 rfl rfl (by decide) ?_
    refine am_bipush (v := (7 : Int32)) X dX7_looksForRoads_40 (by decide) ?_
    refine am_dup2 X dX7_looksForRoads_42 rfl rfl ?_
    obtain ⟨g, h⟩ := gd_some h
    refine am_iald X dX7_looksForRoads_43 rfl g ?_
    refine am_aload_n X dX7_looksForRoads_44 rfl rfl ?_
    refine am_iload_n X dX7_looksForRoads_45 rfl rfl ?_
    obtain ⟨v46, σ46, hc, h⟩ := bd2_some h
    refine am_callv_i1 X dX7_looksForRoads_46 cw_X7_169 (ct_X7_uneven hG N _ _ _ hc) (Nat.le_of_ble_eq_true rfl) rfl rfl rfl rfl (Nat.le_of_ble_eq_true rfl) ?_
    refine am_isub X dX7_looksForRoads_49 ?_
    obtain ⟨g, h⟩ := gd_some h
    refine am_iast X dX7_looksForRoads_50 rfl g ?_
    refine am_tops h (fun σ50 h => ?_)
    refine am_iconst (v := (0 : Int32)) X dX7_looksForRoads_51 (by decide) ?_
    refine am_istore_n (ls' := [some (.ref 60), some (.int x1), some (.int x2), some (.int (0 : Int32))]) X dX7_looksForRoads_52 rfl (by decide)  rfl rfl ?_
    exact am_jump (t_X7_looksForRoads_53 hG N k15 hk15 N _ _ _ _ _ h K h0 X) rfl ⟨rfl, rfl, rfl, rfl, trivial⟩
set_option maxRecDepth 100000 in
set_option maxHeartbeats 4000000 in
theorem t_X7_looksForRoads_15 {G : Cx} (hG : am_G G) (N : Nat) : ∀ (n : Nat) (x1 : Int32) (x2 : Int32) (σ : Sg) (r : Sg), b_X7_looksForRoads_15 N n x1 x2 σ = some r → am_Wp G mX7_looksForRoads 1 (am_qv r) 15 [some (.ref 60), some (.int x1), some (.int x2), none] [] σ := by
  intro n
  induction n with
  | zero => intro x1 x2 σ r h; cases h
  | succ n ih => intro x1 x2 σ r h; exact t_X7_looksForRoads_15b hG N (b_X7_looksForRoads_15 N n) ih x1 x2 σ r h
set_option maxRecDepth 100000 in
set_option maxHeartbeats 4000000 in
theorem ct_X7_looksForRoads {G : Cx} (hG : am_G G) (N : Nat) (x1 : Int32) (σ : Sg) (r : Sg) (h : f_X7_looksForRoads N x1 σ = some r) : am_Ct G 2 yX7_looksForRoads mX7_looksForRoads [.ref 60, .int x1] σ (am_qv r) := by
  refine am_enter hG rfl rfl (Nat.le_of_ble_eq_true rfl) ?_
  intro K h0 X
  unfold f_X7_looksForRoads at h
  refine am_jump (pc' := 0) (ls' := [some (.ref 60), some (.int x1), none, none]) ?_ rfl ⟨rfl, rfl, trivial⟩
  refine am_aload_n X dX7_looksForRoads_0 rfl rfl ?_
  refine am_iconst (v := (0 : Int32)) X dX7_looksForRoads_1 (by decide) ?_
  refine am_putfi X dX7_looksForRoads_2 fp_X7_215 rfl rfl ?_
  refine am_tops h (fun σ2 h => ?_)
  refine am_aload_n X dX7_looksForRoads_5 rfl rfl ?_
  refine am_getf (v := .ref 70) X dX7_looksForRoads_6 fl_X7_40 rfl rfl (by decide) ?_
  refine am_bipush (v := (7 : Int32)) X dX7_looksForRoads_9 (by decide) ?_
  refine am_iconst (v := (0 : Int32)) X dX7_looksForRoads_11 (by decide) ?_
  obtain ⟨g, h⟩ := gd_some h
  refine am_iast X dX7_looksForRoads_12 rfl g ?_
  refine am_tops h (fun σ12 h => ?_)
  refine am_iconst (v := (0 : Int32)) X dX7_looksForRoads_13 (by decide) ?_
  refine am_istore_n (ls' := [some (.ref 60), some (.int x1), some (.int (0 : Int32)), none]) X dX7_looksForRoads_14 rfl (by decide)  rfl rfl ?_
  exact am_jump (t_X7_looksForRoads_15 hG N N _ _ _ _ h K h0 X) rfl ⟨rfl, rfl, rfl, trivial⟩
set_option maxRecDepth 100000 in
set_option maxHeartbeats 4000000 in
theorem t_X7_isPlace_16 {G : Cx} (hG : am_G G) (N : Nat) (σ : Sg) (r : Int32 × Sg) (h : b_X7_isPlace_16 N σ = some r) : am_Wp G mX7_isPlace 0 (am_qi r.1 r.2) 16 [none, none] [] σ := by
  intro K h0 X
  unfold b_X7_isPlace_16 at h
  refine am_iconst (v := (1 : Int32)) X dX7_isPlace_16 (by decide) ?_
  refine am_goto (tgt := 21) X dX7_isPlace_17 (by decide) ?_
  obtain rfl := Option.some.inj h
  exact am_zret X h0 dX7_isPlace_21 rfl (by decide) ⟨rfl, rfl⟩
set_option maxRecDepth 100000 in
set_option maxHeartbeats 4000000 in
theorem ct_X7_isPlace {G : Cx} (hG : am_G G) (N : Nat) (x1 : Int32) (σ : Sg) (r : Int32 × Sg) (h : f_X7_isPlace N x1 σ = some r) : am_Ct G 1 yX7_isPlace mX7_isPlace [.ref 60, .int x1] σ (am_qi r.1 r.2) := by
  refine am_enter hG rfl rfl (Nat.le_of_ble_eq_true rfl) ?_
  intro K h0 X
  unfold f_X7_isPlace at h
  refine am_jump (pc' := 0) (ls' := [some (.ref 60), some (.int x1)]) ?_ rfl ⟨rfl, rfl, trivial⟩
  refine am_iload_n X dX7_isPlace_0 rfl rfl ?_
  refine am_bipush (v := (7 : Int32)) X dX7_isPlace_1 (by decide) ?_
  refine am_icmp_eq (tgt := 16) X dX7_isPlace_3 (by decide) (fun c => ?_) (fun c => ?_)
  · have h := if_t h c
    exact am_jump (t_X7_isPlace_16 hG N _ _ h K h0 X) rfl trivial
  · have h := if_f h c
    refine am_iload_n X dX7_isPlace_6 rfl rfl ?_
    refine am_aload_n X dX7_isPlace_7 rfl rfl ?_
    refine am_getf (v := .ref 61) X dX7_isPlace_8 fl_X7_9 rfl rfl (by decide) ?_
    refine am_iconst (v := (0 : Int32)) X dX7_isPlace_11 (by decide) ?_
    obtain ⟨g, h⟩ := gd_some h
    refine am_iald X dX7_isPlace_12 rfl g ?_
    refine am_icmp_ge (tgt := 20) X dX7_isPlace_13 (by decide) (fun c => ?_) (fun c => ?_)
    · have h := if_t h c
      refine am_iconst (v := (0 : Int32)) X dX7_isPlace_20 (by decide) ?_
      obtain rfl := Option.some.inj h
      exact am_zret X h0 dX7_isPlace_21 rfl (by decide) ⟨rfl, rfl⟩
    · have h := if_f h c
      exact am_jump (t_X7_isPlace_16 hG N _ _ h K h0 X) rfl trivial
set_option maxRecDepth 100000 in
set_option maxHeartbeats 4000000 in
theorem t_X7_looksForFar_238 {G : Cx} (hG : am_G G) (N : Nat) (k52 : Int32 → Sg → Option (Sg)) (k60 : Int32 → Int32 → Sg → Option (Sg)) (hk52 : ∀ (x1 : Int32) (σ : Sg) (r : Sg), k52 x1 σ = some r → am_Wp G mX7_looksForFar 1 (am_qv r) 52 [some (.ref 60), some (.int x1), none, none, none] [] σ) (hk60 : ∀ (x1 : Int32) (x2 : Int32) (σ : Sg) (r : Sg), k60 x1 x2 σ = some r → am_Wp G mX7_looksForFar 1 (am_qv r) 60 [some (.ref 60), some (.int x1), some (.int x2), none, none] [] σ) (x1 : Int32) (x2 : Int32) (σ : Sg) (r : Sg) (h : b_X7_looksForFar_238 N k52 k60 x1 x2 σ = some r) : am_Wp G mX7_looksForFar 1 (am_qv r) 238 [some (.ref 60), some (.int x1), some (.int x2), none, none] [] σ := by
  intro K h0 X
  unfold b_X7_looksForFar_238 at h
  refine am_iinc (ls' := fun x2_238 => [some (.ref 60), some (.int x1), some (.int x2_238), none, none]) X dX7_looksForFar_238 rfl h (by decide) (by decide) rfl (fun _ => rfl) (fun x2_238 h => ?_)
  refine am_goto (tgt := 60) X dX7_looksForFar_241 (by decide) ?_
  exact am_jump (hk60 _ _ _ _ h K h0 X) rfl ⟨rfl, rfl, rfl, trivial⟩
set_option maxRecDepth 100000 in
set_option maxHeartbeats 4000000 in
theorem t_X7_looksForFar_162 {G : Cx} (hG : am_G G) (N : Nat) (k52 : Int32 → Sg → Option (Sg)) (k60 : Int32 → Int32 → Sg → Option (Sg)) (hk52 : ∀ (x1 : Int32) (σ : Sg) (r : Sg), k52 x1 σ = some r → am_Wp G mX7_looksForFar 1 (am_qv r) 52 [some (.ref 60), some (.int x1), none, none, none] [] σ) (hk60 : ∀ (x1 : Int32) (x2 : Int32) (σ : Sg) (r : Sg), k60 x1 x2 σ = some r → am_Wp G mX7_looksForFar 1 (am_qv r) 60 [some (.ref 60), some (.int x1), some (.int x2), none, none] [] σ) (x1 : Int32) (x2 : Int32) (x3 : Int32) (x4 : Int32) (σ : Sg) (r : Sg) (h : b_X7_looksForFar_162 N k52 k60 x1 x2 x3 x4 σ = some r) : am_Wp G mX7_looksForFar 1 (am_qv r) 162 [some (.ref 60), some (.int x1), some (.int x2), some (.int x3), some (.int x4)] [] σ := by
  intro K h0 X
  unfold b_X7_looksForFar_162 at h
  refine am_aload_n X dX7_looksForFar_162 rfl rfl ?_
  refine am_getf (v := .ref 69) X dX7_looksForFar_163 fl_X7_37 rfl rfl (by decide) ?_
  refine am_iload_n X dX7_looksForFar_166 rfl rfl ?_
  obtain ⟨g, h⟩ := gd_some h
  refine am_iald X dX7_looksForFar_167 rfl g ?_
  refine am_if_le (tgt := 238) X dX7_looksForFar_168 (by decide) (fun c => ?_) (fun c => ?_)
  · have h := if_t h c
    exact am_jump (t_X7_looksForFar_238 hG N k52 k60 hk52 hk60 _ _ _ _ h K h0 X) rfl ⟨rfl, rfl, rfl, trivial⟩
  · have h := if_f h c
    refine am_aload_n X dX7_looksForFar_171 rfl rfl ?_
    refine am_getf (v := .ref 71) X dX7_looksForFar_172 fl_X7_43 rfl rfl (by decide) ?_
    refine am_iload X dX7_looksForFar_175 rfl ?_
    obtain ⟨g, h⟩ := gd_some h
    refine am_iald X dX7_looksForFar_177 rfl g ?_
    refine am_ldc (v := (1000000000 : Int32)) X dX7_looksForFar_178 (wm_r27 _ (List.mem_of_getElem? (i := 1) rfl)) ?_
    refine am_icmp_ge (tgt := 238) X dX7_looksForFar_180 (by decide) (fun c => ?_) (fun c => ?_)
    · have h := if_t h c
      exact am_jump (t_X7_looksForFar_238 hG N k52 k60 hk52 hk60 _ _ _ _ h K h0 X) rfl ⟨rfl, rfl, rfl, trivial⟩
    · have h := if_f h c
      refine am_aload_n X dX7_looksForFar_183 rfl rfl ?_
      refine am_getf (v := .ref 71) X dX7_looksForFar_184 fl_X7_43 rfl rfl (by decide) ?_
      refine am_iload X dX7_looksForFar_187 rfl ?_
      obtain ⟨g, h⟩ := gd_some h
      refine am_iald X dX7_looksForFar_189 rfl g ?_
      refine am_aload_n X dX7_looksForFar_190 rfl rfl ?_
      refine am_getf (v := .ref 67) X dX7_looksForFar_191 fl_X7_31 rfl rfl (by decide) ?_
      refine am_iload_n X dX7_looksForFar_194 rfl rfl ?_
      obtain ⟨g, h⟩ := gd_some h
      refine am_iald X dX7_looksForFar_195 rfl g ?_
      refine am_isub X dX7_looksForFar_196 ?_
      refine am_aload_n X dX7_looksForFar_197 rfl rfl ?_
      refine am_getf (v := .ref 71) X dX7_looksForFar_198 fl_X7_43 rfl rfl (by decide) ?_
      refine am_iload_n X dX7_looksForFar_201 rfl rfl ?_
      obtain ⟨g, h⟩ := gd_some h
      refine am_iald X dX7_looksForFar_202 rfl g ?_
      refine am_icmp_ge (tgt := 238) X dX7_looksForFar_203 (by decide) (fun c => ?_) (fun c => ?_)
      · have h := if_t h c
        exact am_jump (t_X7_looksForFar_238 hG N k52 k60 hk52 hk60 _ _ _ _ h K h0 X) rfl ⟨rfl, rfl, rfl, trivial⟩
      · have h := if_f h c
        refine am_aload_n X dX7_looksForFar_206 rfl rfl ?_
        refine am_getf (v := .ref 71) X dX7_looksForFar_207 fl_X7_43 rfl rfl (by decide) ?_
        refine am_iload_n X dX7_looksForFar_210 rfl rfl ?_
        refine am_aload_n X dX7_looksForFar_211 rfl rfl ?_
        refine am_getf (v := .ref 71) X dX7_looksForFar_212 fl_X7_43 rfl rfl (by decide) ?_
        refine am_iload X dX7_looksForFar_215 rfl ?_
        obtain ⟨g, h⟩ := gd_some h
        refine am_iald X dX7_looksForFar_217 rfl g ?_
        refine am_aload_n X dX7_looksForFar_218 rfl rfl ?_
        refine am_getf (v := .ref 67) X dX7_looksForFar_219 fl_X7_31 rfl rfl (by decide) ?_
        refine am_iload_n X dX7_looksForFar_222 rfl rfl ?_
        obtain ⟨g, h⟩ := gd_some h
        refine am_iald X dX7_looksForFar_223 rfl g ?_
        refine am_isub X dX7_looksForFar_224 ?_
        obtain ⟨g, h⟩ := gd_some h
        refine am_iast X dX7_looksForFar_225 rfl g ?_
        refine am_tops h (fun σ225 h => ?_)
        refine am_aload_n X dX7_looksForFar_226 rfl rfl ?_
        refine am_getf (v := .ref 72) X dX7_looksForFar_227 fl_X7_46 rfl rfl (by decide) ?_
        refine am_iload_n X dX7_looksForFar_230 rfl rfl ?_
        refine am_bipush (v := (100 : Int32)) X dX7_looksForFar_231 (by decide) ?_
        refine am_iload_n X dX7_looksForFar_233 rfl rfl ?_
        refine am_iadd X dX7_looksForFar_234 ?_
        obtain ⟨g, h⟩ := gd_some h
        refine am_iast X dX7_looksForFar_235 rfl g ?_
        refine am_tops h (fun σ235 h => ?_)
        refine am_iconst (v := (1 : Int32)) X dX7_looksForFar_236 (by decide) ?_
        refine am_istore_n (ls' := [some (.ref 60), some (.int (1 : Int32)), some (.int x2), some (.int x3), some (.int x4)]) X dX7_looksForFar_237 rfl (by decide)  rfl rfl ?_
        exact am_jump (t_X7_looksForFar_238 hG N k52 k60 hk52 hk60 _ _ _ _ h K h0 X) rfl ⟨rfl, rfl, rfl, trivial⟩
set_option maxRecDepth 100000 in
set_option maxHeartbeats 4000000 in
theorem t_X7_looksForFar_60b {G : Cx} (hG : am_G G) (N : Nat) (k52 : Int32 → Sg → Option (Sg)) (k60 : Int32 → Int32 → Sg → Option (Sg)) (hk52 : ∀ (x1 : Int32) (σ : Sg) (r : Sg), k52 x1 σ = some r → am_Wp G mX7_looksForFar 1 (am_qv r) 52 [some (.ref 60), some (.int x1), none, none, none] [] σ) (hk60 : ∀ (x1 : Int32) (x2 : Int32) (σ : Sg) (r : Sg), k60 x1 x2 σ = some r → am_Wp G mX7_looksForFar 1 (am_qv r) 60 [some (.ref 60), some (.int x1), some (.int x2), none, none] [] σ) (x1 : Int32) (x2 : Int32) (σ : Sg) (r : Sg) (h : b_X7_looksForFar_60b N k52 k60 x1 x2 σ = some r) : am_Wp G mX7_looksForFar 1 (am_qv r) 60 [some (.ref 60), some (.int x1), some (.int x2), none, none] [] σ := by
  intro K h0 X
  unfold b_X7_looksForFar_60b at h
  refine am_iload_n X dX7_looksForFar_60 rfl rfl ?_
  refine am_aload_n X dX7_looksForFar_61 rfl rfl ?_
  refine am_getf (v := .int (rg σ 60 19)) X dX7_looksForFar_62 fl_X7_215 rfl rfl (by decide) ?_
  refine am_icmp_ge (tgt := 244) X dX7_looksForFar_65 (by decide) (fun c => ?_) (fun c => ?_)
  · have h := if_t h c
    refine am_goto (tgt := 52) X dX7_looksForFar_244 (by decide) ?_
    exact am_jump (hk52 _ _ _ h K h0 X) rfl ⟨rfl, rfl, trivial⟩
  · have h := if_f h c
    refine am_aload_n X dX7_looksForFar_68 rfl rfl ?_
    refine am_getf (v := .ref 65) X dX7_looksForFar_69 fl_X7_25 rfl rfl (by decide) ?_
    refine am_iload_n X dX7_looksForFar_72 rfl rfl ?_
    obtain ⟨g, h⟩ := gd_some h
    refine am_iald X dX7_looksForFar_73 rfl g ?_
    refine am_topi h (fun x3_74 h => ?_)
    refine am_istore_n (ls' := [some (.ref 60), some (.int x1), some (.int x2), some (.int x3_74), none]) X dX7_looksForFar_74 rfl (by decide)  rfl rfl ?_
    refine am_aload_n X dX7_looksForFar_75 rfl rfl ?_
    refine am_getf (v := .ref 66) X dX7_looksForFar_76 fl_X7_28 rfl rfl (by decide) ?_
    refine am_iload_n X dX7_looksForFar_79 rfl rfl ?_
    obtain ⟨g, h⟩ := gd_some h
    refine am_iald X dX7_looksForFar_80 rfl g ?_
    refine am_topi h (fun x4_81 h => ?_)
    refine am_istore (ls' := [some (.ref 60), some (.int x1), some (.int x2), some (.int x3_74), some (.int x4_81)]) X dX7_looksForFar_81 (by decide)  rfl rfl ?_
    refine am_aload_n X dX7_looksForFar_83 rfl rfl ?_
    refine am_getf (v := .ref 69) X dX7_looksForFar_84 fl_X7_37 rfl rfl (by decide) ?_
    refine am_iload_n X dX7_looksForFar_87 rfl rfl ?_
    obtain ⟨g, h⟩ := gd_some h
    refine am_iald X dX7_looksForFar_88 rfl g ?_
    refine am_aload_n X dX7_looksForFar_89 rfl rfl ?_
    refine am_getf (v := .ref 68) X dX7_looksForFar_90 fl_X7_34 rfl rfl (by decide) ?_
    refine am_iload_n X dX7_looksForFar_93 rfl rfl ?_
    obtain ⟨g, h⟩ := gd_some h
    refine am_iald X dX7_looksForFar_94 rfl g ?_
    refine am_icmp_ge (tgt := 162) X dX7_looksForFar_95 (by decide) (fun c => ?_) (fun c => ?_)
    · have h := if_t h c
      exact am_jump (t_X7_looksForFar_162 hG N k52 k60 hk52 hk60 _ _ _ _ _ _ h K h0 X) rfl ⟨rfl, rfl, rfl, rfl, rfl, trivial⟩
    · have h := if_f h c
      refine am_aload_n X dX7_looksForFar_98 rfl rfl ?_
      refine am_getf (v := .ref 71) X dX7_looksForFar_99 fl_X7_43 rfl rfl (by decide) ?_
      refine am_iload_n X dX7_looksForFar_102 rfl rfl ?_
      obtain ⟨g, h⟩ := gd_some h
      refine am_iald X dX7_looksForFar_103 rfl g ?_
      refine am_ldc (v := (1000000000 : Int32)) X dX7_looksForFar_104 (wm_r27 _ (List.mem_of_getElem? (i := 1) rfl)) ?_
      refine am_icmp_ge (tgt := 162) X dX7_looksForFar_106 (by decide) (fun c => ?_) (fun c => ?_)
      · have h := if_t h c
        exact am_jump (t_X7_looksForFar_162 hG N k52 k60 hk52 hk60 _ _ _ _ _ _ h K h0 X) rfl ⟨rfl, rfl, rfl, rfl, rfl, trivial⟩
      · have h := if_f h c
        refine am_aload_n X dX7_looksForFar_109 rfl rfl ?_
        refine am_getf (v := .ref 71) X dX7_looksForFar_110 fl_X7_43 rfl rfl (by decide) ?_
        refine am_iload_n X dX7_looksForFar_113 rfl rfl ?_
        obtain ⟨g, h⟩ := gd_some h
        refine am_iald X dX7_looksForFar_114 rfl g ?_
        refine am_aload_n X dX7_looksForFar_115 rfl rfl ?_
        refine am_getf (v := .ref 67) X dX7_looksForFar_116 fl_X7_31 rfl rfl (by decide) ?_
        refine am_iload_n X dX7_looksForFar_119 rfl rfl ?_
        obtain ⟨g, h⟩ := gd_some h
        refine am_iald X dX7_looksForFar_120 rfl g ?_
        refine am_iadd X dX7_looksForFar_121 ?_
        refine am_aload_n X dX7_looksForFar_122 rfl rfl ?_
        refine am_getf (v := .ref 71) X dX7_looksForFar_123 fl_X7_43 rfl rfl (by decide) ?_
        refine am_iload X dX7_looksForFar_126 rfl ?_
        obtain ⟨g, h⟩ := gd_some h
        refine am_iald X dX7_looksForFar_128 rfl g ?_
        refine am_icmp_ge (tgt := 162) X dX7_looksForFar_129 (by decide) (fun c => ?_) (fun c => ?_)
        · have h := if_t h c
          exact am_jump (t_X7_looksForFar_162 hG N k52 k60 hk52 hk60 _ _ _ _ _ _ h K h0 X) rfl ⟨rfl, rfl, rfl, rfl, rfl, trivial⟩
        · have h := if_f h c
          refine am_aload_n X dX7_looksForFar_132 rfl rfl ?_
          refine am_getf (v := .ref 71) X dX7_looksForFar_133 fl_X7_43 rfl rfl (by decide) ?_
          refine am_iload X dX7_looksForFar_136 rfl ?_
          refine am_aload_n X dX7_looksForFar_138 rfl rfl ?_
          refine am_getf (v := .ref 71) X dX7_looksForFar_139 fl_X7_43 rfl rfl (by decide) ?_
          refine am_iload_n X dX7_looksForFar_142 rfl rfl ?_
          obtain ⟨g, h⟩ := gd_some h
          refine am_iald X dX7_looksForFar_143 rfl g ?_
          refine am_aload_n X dX7_looksForFar_144 rfl rfl ?_
          refine am_getf (v := .ref 67) X dX7_looksForFar_145 fl_X7_31 rfl rfl (by decide) ?_
          refine am_iload_n X dX7_looksForFar_148 rfl rfl ?_
          obtain ⟨g, h⟩ := gd_some h
          refine am_iald X dX7_looksForFar_149 rfl g ?_
          refine am_iadd X dX7_looksForFar_150 ?_
          obtain ⟨g, h⟩ := gd_some h
          refine am_iast X dX7_looksForFar_151 rfl g ?_
          refine am_tops h (fun σ151 h => ?_)
          refine am_aload_n X dX7_looksForFar_152 rfl rfl ?_
          refine am_getf (v := .ref 72) X dX7_looksForFar_153 fl_X7_46 rfl rfl (by decide) ?_
          refine am_iload X dX7_looksForFar_156 rfl ?_
          refine am_iload_n X dX7_looksForFar_158 rfl rfl ?_
          obtain ⟨g, h⟩ := gd_some h
          refine am_iast X dX7_looksForFar_159 rfl g ?_
          refine am_tops h (fun σ159 h => ?_)
          refine am_iconst (v := (1 : Int32)) X dX7_looksForFar_160 (by decide) ?_
          refine am_istore_n (ls' := [some (.ref 60), some (.int (1 : Int32)), some (.int x2), some (.int x3_74), some (.int x4_81)]) X dX7_looksForFar_161 rfl (by decide)  rfl rfl ?_
          exact am_jump (t_X7_looksForFar_162 hG N k52 k60 hk52 hk60 _ _ _ _ _ _ h K h0 X) rfl ⟨rfl, rfl, rfl, rfl, rfl, trivial⟩
set_option maxRecDepth 100000 in
set_option maxHeartbeats 4000000 in
theorem t_X7_looksForFar_60 {G : Cx} (hG : am_G G) (N : Nat) (k52 : Int32 → Sg → Option (Sg)) (hk52 : ∀ (x1 : Int32) (σ : Sg) (r : Sg), k52 x1 σ = some r → am_Wp G mX7_looksForFar 1 (am_qv r) 52 [some (.ref 60), some (.int x1), none, none, none] [] σ) : ∀ (n : Nat) (x1 : Int32) (x2 : Int32) (σ : Sg) (r : Sg), b_X7_looksForFar_60 N k52 n x1 x2 σ = some r → am_Wp G mX7_looksForFar 1 (am_qv r) 60 [some (.ref 60), some (.int x1), some (.int x2), none, none] [] σ := by
  intro n
  induction n with
  | zero => intro x1 x2 σ r h; cases h
  | succ n ih => intro x1 x2 σ r h; exact t_X7_looksForFar_60b hG N k52 (b_X7_looksForFar_60 N k52 n) hk52 ih x1 x2 σ r h
set_option maxRecDepth 100000 in
set_option maxHeartbeats 4000000 in
theorem t_X7_looksForFar_52b {G : Cx} (hG : am_G G) (N : Nat) (k52 : Int32 → Sg → Option (Sg)) (hk52 : ∀ (x1 : Int32) (σ : Sg) (r : Sg), k52 x1 σ = some r → am_Wp G mX7_looksForFar 1 (am_qv r) 52 [some (.ref 60), some (.int x1), none, none, none] [] σ) (x1 : Int32) (σ : Sg) (r : Sg) (h : b_X7_looksForFar_52b N k52 x1 σ = some r) : am_Wp G mX7_looksForFar 1 (am_qv r) 52 [some (.ref 60), some (.int x1), none, none, none] [] σ := by
  intro K h0 X
  unfold b_X7_looksForFar_52b at h
  refine am_iload_n X dX7_looksForFar_52 rfl rfl ?_
  refine am_if_eq (tgt := 247) X dX7_looksForFar_53 (by decide) (fun c => ?_) (fun c => ?_)
  · have h := if_t h c
    obtain rfl := Option.some.inj h
    exact am_vret X h0 dX7_looksForFar_247 rfl ⟨rfl, rfl⟩
  · have h := if_f h c
    refine am_iconst (v := (0 : Int32)) X dX7_looksForFar_56 (by decide) ?_
    refine am_istore_n (ls' := [some (.ref 60), some (.int (0 : Int32)), none, none, none]) X dX7_looksForFar_57 rfl (by decide)  rfl rfl ?_
    refine am_iconst (v := (0 : Int32)) X dX7_looksForFar_58 (by decide) ?_
    refine am_istore_n (ls' := [some (.ref 60), some (.int (0 : Int32)), some (.int (0 : Int32)), none, none]) X dX7_looksForFar_59 rfl (by decide)  rfl rfl ?_
    exact am_jump (t_X7_looksForFar_60 hG N k52 hk52 N _ _ _ _ h K h0 X) rfl ⟨rfl, rfl, rfl, trivial⟩
set_option maxRecDepth 100000 in
set_option maxHeartbeats 4000000 in
theorem t_X7_looksForFar_52 {G : Cx} (hG : am_G G) (N : Nat) : ∀ (n : Nat) (x1 : Int32) (σ : Sg) (r : Sg), b_X7_looksForFar_52 N n x1 σ = some r → am_Wp G mX7_looksForFar 1 (am_qv r) 52 [some (.ref 60), some (.int x1), none, none, none] [] σ := by
  intro n
  induction n with
  | zero => intro x1 σ r h; cases h
  | succ n ih => intro x1 σ r h; exact t_X7_looksForFar_52b hG N (b_X7_looksForFar_52 N n) ih x1 σ r h
set_option maxRecDepth 100000 in
set_option maxHeartbeats 4000000 in
theorem t_X7_looksForFar_36 {G : Cx} (hG : am_G G) (N : Nat) (k2 : Int32 → Sg → Option (Sg)) (hk2 : ∀ (x1 : Int32) (σ : Sg) (r : Sg), k2 x1 σ = some r → am_Wp G mX7_looksForFar 1 (am_qv r) 2 [some (.ref 60), some (.int x1), none, none, none] [] σ) (x1 : Int32) (s1 : Int32) (s2 : Int32) (σ : Sg) (r : Sg) (h : b_X7_looksForFar_36 N k2 x1 s1 s2 σ = some r) : am_Wp G mX7_looksForFar 1 (am_qv r) 36 [some (.ref 60), some (.int x1), none, none, none] [.int s2, .int s1, .ref 71] σ := by
  intro K h0 X
  unfold b_X7_looksForFar_36 at h
  obtain ⟨g, h⟩ := gd_some h
  refine am_iast X dX7_looksForFar_36 rfl g ?_
  refine am_tops h (fun σ36 h => ?_)
  refine am_aload_n X dX7_looksForFar_37 rfl rfl ?_
  refine am_getf (v := .ref 72) X dX7_looksForFar_38 fl_X7_46 rfl rfl (by decide) ?_
  refine am_iload_n X dX7_looksForFar_41 rfl rfl ?_
  refine am_iconst (v := (-1 : Int32)) X dX7_looksForFar_42 (by decide) ?_
  obtain ⟨g, h⟩ := gd_some h
  refine am_iast X dX7_looksForFar_43 rfl g ?_
  refine am_tops h (fun σ43 h => ?_)
  refine am_iinc (ls' := fun x1_44 => [some (.ref 60), some (.int x1_44), none, none, none]) X dX7_looksForFar_44 rfl h (by decide) (by decide) rfl (fun _ => rfl) (fun x1_44 h => ?_)
  refine am_goto (tgt := 2) X dX7_looksForFar_47 (by decide) ?_
  exact am_jump (hk2 _ _ _ h K h0 X) rfl ⟨rfl, rfl, trivial⟩
set_option maxRecDepth 100000 in
set_option maxHeartbeats 4000000 in
theorem t_X7_looksForFar_34 {G : Cx} (hG : am_G G) (N : Nat) (k2 : Int32 → Sg → Option (Sg)) (hk2 : ∀ (x1 : Int32) (σ : Sg) (r : Sg), k2 x1 σ = some r → am_Wp G mX7_looksForFar 1 (am_qv r) 2 [some (.ref 60), some (.int x1), none, none, none] [] σ) (x1 : Int32) (s1 : Int32) (σ : Sg) (r : Sg) (h : b_X7_looksForFar_34 N k2 x1 s1 σ = some r) : am_Wp G mX7_looksForFar 1 (am_qv r) 34 [some (.ref 60), some (.int x1), none, none, none] [.int s1, .ref 71] σ := by
  intro K h0 X
  unfold b_X7_looksForFar_34 at h
  refine am_ldc (v := (1000000000 : Int32)) X dX7_looksForFar_34 (wm_r27 _ (List.mem_of_getElem? (i := 1) rfl)) ?_
  exact am_jump (t_X7_looksForFar_36 hG N k2 hk2 _ _ _ _ _ h K h0 X) rfl ⟨rfl, rfl, trivial⟩
set_option maxRecDepth 100000 in
set_option maxHeartbeats 4000000 in
theorem t_X7_looksForFar_2b {G : Cx} (hG : am_G G) (N : Nat) (k2 : Int32 → Sg → Option (Sg)) (hk2 : ∀ (x1 : Int32) (σ : Sg) (r : Sg), k2 x1 σ = some r → am_Wp G mX7_looksForFar 1 (am_qv r) 2 [some (.ref 60), some (.int x1), none, none, none] [] σ) (x1 : Int32) (σ : Sg) (r : Sg) (h : b_X7_looksForFar_2b N k2 x1 σ = some r) : am_Wp G mX7_looksForFar 1 (am_qv r) 2 [some (.ref 60), some (.int x1), none, none, none] [] σ := by
  intro K h0 X
  unfold b_X7_looksForFar_2b at h
  refine am_iload_n X dX7_looksForFar_2 rfl rfl ?_
  refine am_bipush (v := (8 : Int32)) X dX7_looksForFar_3 (by decide) ?_
  refine am_icmp_ge (tgt := 50) X dX7_looksForFar_5 (by decide) (fun c => ?_) (fun c => ?_)
  · have h := if_t h c
    refine am_iconst (v := (1 : Int32)) X dX7_looksForFar_50 (by decide) ?_
    refine am_istore_n (ls' := [some (.ref 60), some (.int (1 : Int32)), none, none, none]) X dX7_looksForFar_51 rfl (by decide)  rfl rfl ?_
    exact am_jump (t_X7_looksForFar_52 hG N N _ _ _ h K h0 X) rfl ⟨rfl, rfl, trivial⟩
  · have h := if_f h c
    refine am_aload_n X dX7_looksForFar_8 rfl rfl ?_
    refine am_getf (v := .ref 71) X dX7_looksForFar_9 fl_X7_43 rfl rfl (by decide) ?_
    refine am_iload_n X dX7_looksForFar_12 rfl rfl ?_
    refine am_aload_n X dX7_looksForFar_13 rfl rfl ?_
    refine am_iload_n X dX7_looksForFar_14 rfl rfl ?_
    obtain ⟨v15, σ15, hc, h⟩ := bd2_some h
    refine am_callv_i1 X dX7_looksForFar_15 cw_X7_223 (ct_X7_isPlace hG N _ _ _ hc) (Nat.le_of_ble_eq_true rfl) rfl rfl rfl rfl (Nat.le_of_ble_eq_true rfl) ?_
    refine am_if_eq (tgt := 34) X dX7_looksForFar_18 (by decide) (fun c => ?_) (fun c => ?_)
    · have h := if_t h c
      exact am_jump (t_X7_looksForFar_34 hG N k2 hk2 _ _ _ _ h K h0 X) rfl ⟨rfl, rfl, trivial⟩
    · have h := if_f h c
      refine am_aload_n X dX7_looksForFar_21 rfl rfl ?_
      refine am_getf (v := .ref 70) X dX7_looksForFar_22 fl_X7_40 rfl rfl (by decide) ?_
      refine am_iload_n X dX7_looksForFar_25 rfl rfl ?_
      obtain ⟨g, h⟩ := gd_some h
      refine am_iald X dX7_looksForFar_26 rfl g ?_
      refine am_if_le (tgt := 34) X dX7_looksForFar_27 (by decide) (fun c => ?_) (fun c => ?_)
      · have h := if_t h c
        exact am_jump (t_X7_looksForFar_34 hG N k2 hk2 _ _ _ _ h K h0 X) rfl ⟨rfl, rfl, trivial⟩
      · have h := if_f h c
        refine am_iconst (v := (0 : Int32)) X dX7_looksForFar_30 (by decide) ?_
        refine am_goto (tgt := 36) X dX7_looksForFar_31 (by decide) ?_
        exact am_jump (t_X7_looksForFar_36 hG N k2 hk2 _ _ _ _ _ h K h0 X) rfl ⟨rfl, rfl, trivial⟩
set_option maxRecDepth 100000 in
set_option maxHeartbeats 4000000 in
theorem t_X7_looksForFar_2 {G : Cx} (hG : am_G G) (N : Nat) : ∀ (n : Nat) (x1 : Int32) (σ : Sg) (r : Sg), b_X7_looksForFar_2 N n x1 σ = some r → am_Wp G mX7_looksForFar 1 (am_qv r) 2 [some (.ref 60), some (.int x1), none, none, none] [] σ := by
  intro n
  induction n with
  | zero => intro x1 σ r h; cases h
  | succ n ih => intro x1 σ r h; exact t_X7_looksForFar_2b hG N (b_X7_looksForFar_2 N n) ih x1 σ r h
set_option maxRecDepth 100000 in
set_option maxHeartbeats 4000000 in
theorem ct_X7_looksForFar {G : Cx} (hG : am_G G) (N : Nat) (σ : Sg) (r : Sg) (h : f_X7_looksForFar N σ = some r) : am_Ct G 2 yX7_looksForFar mX7_looksForFar [.ref 60] σ (am_qv r) := by
  refine am_enter hG rfl rfl (Nat.le_of_ble_eq_true rfl) ?_
  intro K h0 X
  unfold f_X7_looksForFar at h
  refine am_jump (pc' := 0) (ls' := [some (.ref 60), none, none, none, none]) ?_ rfl ⟨rfl, trivial⟩
  refine am_iconst (v := (0 : Int32)) X dX7_looksForFar_0 (by decide) ?_
  refine am_istore_n (ls' := [some (.ref 60), some (.int (0 : Int32)), none, none, none]) X dX7_looksForFar_1 rfl (by decide)  rfl rfl ?_
  exact am_jump (t_X7_looksForFar_2 hG N N _ _ _ h K h0 X) rfl ⟨rfl, rfl, trivial⟩
set_option maxRecDepth 100000 in
set_option maxHeartbeats 4000000 in
theorem ct_X7_before {G : Cx} (hG : am_G G) (N : Nat) (x1 : Int32) (σ : Sg) (r : Int32 × Sg) (h : f_X7_before N x1 σ = some r) : am_Ct G 1 yX7_before mX7_before [.ref 60, .int x1] σ (am_qi r.1 r.2) := by
  refine am_enter hG rfl rfl (Nat.le_of_ble_eq_true rfl) ?_
  intro K h0 X
  unfold f_X7_before at h
  refine am_jump (pc' := 0) (ls' := [some (.ref 60), some (.int x1)]) ?_ rfl ⟨rfl, rfl, trivial⟩
  refine am_aload_n X dX7_before_0 rfl rfl ?_
  refine am_getf (v := .ref 72) X dX7_before_1 fl_X7_46 rfl rfl (by decide) ?_
  refine am_iload_n X dX7_before_4 rfl rfl ?_
  obtain ⟨g, h⟩ := gd_some h
  refine am_iald X dX7_before_5 rfl g ?_
  refine am_bipush (v := (100 : Int32)) X dX7_before_6 (by decide) ?_
  refine am_icmp_ge (tgt := 25) X dX7_before_8 (by decide) (fun c => ?_) (fun c => ?_)
  · have h := if_t h c
    refine am_aload_n X dX7_before_25 rfl rfl ?_
    refine am_getf (v := .ref 66) X dX7_before_26 fl_X7_28 rfl rfl (by decide) ?_
    refine am_aload_n X dX7_before_29 rfl rfl ?_
    refine am_getf (v := .ref 72) X dX7_before_30 fl_X7_46 rfl rfl (by decide) ?_
    refine am_iload_n X dX7_before_33 rfl rfl ?_
    obtain ⟨g, h⟩ := gd_some h
    refine am_iald X dX7_before_34 rfl g ?_
    refine am_bipush (v := (100 : Int32)) X dX7_before_35 (by decide) ?_
    refine am_isub X dX7_before_37 ?_
    obtain ⟨g, h⟩ := gd_some h
    refine am_iald X dX7_before_38 rfl g ?_
    obtain rfl := Option.some.inj h
    exact am_iret X h0 dX7_before_39 rfl ⟨rfl, rfl⟩
  · have h := if_f h c
    refine am_aload_n X dX7_before_11 rfl rfl ?_
    refine am_getf (v := .ref 65) X dX7_before_12 fl_X7_25 rfl rfl (by decide) ?_
    refine am_aload_n X dX7_before_15 rfl rfl ?_
    refine am_getf (v := .ref 72) X dX7_before_16 fl_X7_46 rfl rfl (by decide) ?_
    refine am_iload_n X dX7_before_19 rfl rfl ?_
    obtain ⟨g, h⟩ := gd_some h
    refine am_iald X dX7_before_20 rfl g ?_
    obtain ⟨g, h⟩ := gd_some h
    refine am_iald X dX7_before_21 rfl g ?_
    refine am_goto (tgt := 39) X dX7_before_22 (by decide) ?_
    obtain rfl := Option.some.inj h
    exact am_iret X h0 dX7_before_39 rfl ⟨rfl, rfl⟩
set_option maxRecDepth 100000 in
set_option maxHeartbeats 4000000 in
theorem ct_X7_roomBehind {G : Cx} (hG : am_G G) (N : Nat) (x1 : Int32) (σ : Sg) (r : Int32 × Sg) (h : f_X7_roomBehind N x1 σ = some r) : am_Ct G 1 yX7_roomBehind mX7_roomBehind [.ref 60, .int x1] σ (am_qi r.1 r.2) := by
  refine am_enter hG rfl rfl (Nat.le_of_ble_eq_true rfl) ?_
  intro K h0 X
  unfold f_X7_roomBehind at h
  refine am_jump (pc' := 0) (ls' := [some (.ref 60), some (.int x1), none]) ?_ rfl ⟨rfl, rfl, trivial⟩
  refine am_aload_n X dX7_roomBehind_0 rfl rfl ?_
  refine am_getf (v := .ref 72) X dX7_roomBehind_1 fl_X7_46 rfl rfl (by decide) ?_
  refine am_iload_n X dX7_roomBehind_4 rfl rfl ?_
  obtain ⟨g, h⟩ := gd_some h
  refine am_iald X dX7_roomBehind_5 rfl g ?_
  refine am_bipush (v := (100 : Int32)) X dX7_roomBehind_6 (by decide) ?_
  refine am_irem X dX7_roomBehind_8 (by decide) ?_
  refine am_topi h (fun x2_9 h => ?_)
  refine am_istore_n (ls' := [some (.ref 60), some (.int x1), some (.int x2_9)]) X dX7_roomBehind_9 rfl (by decide)  rfl rfl ?_
  refine am_aload_n X dX7_roomBehind_10 rfl rfl ?_
  refine am_getf (v := .ref 72) X dX7_roomBehind_11 fl_X7_46 rfl rfl (by decide) ?_
  refine am_iload_n X dX7_roomBehind_14 rfl rfl ?_
  obtain ⟨g, h⟩ := gd_some h
  refine am_iald X dX7_roomBehind_15 rfl g ?_
  refine am_bipush (v := (100 : Int32)) X dX7_roomBehind_16 (by decide) ?_
  refine am_icmp_ge (tgt := 37) X dX7_roomBehind_18 (by decide) (fun c => ?_) (fun c => ?_)
  · have h := if_t h c
    refine am_aload_n X dX7_roomBehind_37 rfl rfl ?_
    refine am_getf (v := .ref 69) X dX7_roomBehind_38 fl_X7_37 rfl rfl (by decide) ?_
    refine am_iload_n X dX7_roomBehind_41 rfl rfl ?_
    obtain ⟨g, h⟩ := gd_some h
    refine am_iald X dX7_roomBehind_42 rfl g ?_
    obtain rfl := Option.some.inj h
    exact am_iret X h0 dX7_roomBehind_43 rfl ⟨rfl, rfl⟩
  · have h := if_f h c
    refine am_aload_n X dX7_roomBehind_21 rfl rfl ?_
    refine am_getf (v := .ref 68) X dX7_roomBehind_22 fl_X7_34 rfl rfl (by decide) ?_
    refine am_iload_n X dX7_roomBehind_25 rfl rfl ?_
    obtain ⟨g, h⟩ := gd_some h
    refine am_iald X dX7_roomBehind_26 rfl g ?_
    refine am_aload_n X dX7_roomBehind_27 rfl rfl ?_
    refine am_getf (v := .ref 69) X dX7_roomBehind_28 fl_X7_37 rfl rfl (by decide) ?_
    refine am_iload_n X dX7_roomBehind_31 rfl rfl ?_
    obtain ⟨g, h⟩ := gd_some h
    refine am_iald X dX7_roomBehind_32 rfl g ?_
    refine am_isub X dX7_roomBehind_33 ?_
    refine am_goto (tgt := 43) X dX7_roomBehind_34 (by decide) ?_
    obtain rfl := Option.some.inj h
    exact am_iret X h0 dX7_roomBehind_43 rfl ⟨rfl, rfl⟩
set_option maxRecDepth 100000 in
set_option maxHeartbeats 4000000 in
theorem t_X7_sends_214 {G : Cx} (hG : am_G G) (N : Nat) (k172 : Int32 → Int32 → Sg → Option (Int32 × Sg)) (hk172 : ∀ (x2 : Int32) (x3 : Int32) (σ : Sg) (r : Int32 × Sg), k172 x2 x3 σ = some r → am_Wp G mX7_sends 2 (am_qi r.1 r.2) 172 [some (.ref 60), none, some (.int x2), some (.int x3)] [] σ) (x2 : Int32) (x3 : Int32) (s1 : Int32) (s2 : Int32) (s3 : Int32) (σ : Sg) (r : Int32 × Sg) (h : b_X7_sends_214 N k172 x2 x3 s1 s2 s3 σ = some r) : am_Wp G mX7_sends 2 (am_qi r.1 r.2) 214 [some (.ref 60), none, some (.int x2), some (.int x3)] [.int s3, .int s2, .int s1, .ref 69] σ := by
  intro K h0 X
  unfold b_X7_sends_214 at h
  refine am_iadd X dX7_sends_214 ?_
  obtain ⟨g, h⟩ := gd_some h
  refine am_iast X dX7_sends_215 rfl g ?_
  refine am_tops h (fun σ215 h => ?_)
  refine am_aload_n X dX7_sends_216 rfl rfl ?_
  refine am_iload_n X dX7_sends_217 rfl rfl ?_
  obtain ⟨v218, σ218, hc, h⟩ := bd2_some h
  refine am_callv_i1 X dX7_sends_218 cw_X7_232 (ct_X7_before hG N _ _ _ hc) (Nat.le_of_ble_eq_true rfl) rfl rfl rfl rfl (Nat.le_of_ble_eq_true rfl) ?_
  refine am_istore_n (ls' := [some (.ref 60), none, some (.int x2), some (.int v218)]) X dX7_sends_221 rfl (by decide)  rfl rfl ?_
  refine am_goto (tgt := 172) X dX7_sends_222 (by decide) ?_
  exact am_jump (hk172 _ _ _ _ h K h0 X) rfl ⟨rfl, rfl, rfl, trivial⟩
set_option maxRecDepth 100000 in
set_option maxHeartbeats 4000000 in
theorem t_X7_sends_172b {G : Cx} (hG : am_G G) (N : Nat) (k172 : Int32 → Int32 → Sg → Option (Int32 × Sg)) (hk172 : ∀ (x2 : Int32) (x3 : Int32) (σ : Sg) (r : Int32 × Sg), k172 x2 x3 σ = some r → am_Wp G mX7_sends 2 (am_qi r.1 r.2) 172 [some (.ref 60), none, some (.int x2), some (.int x3)] [] σ) (x2 : Int32) (x3 : Int32) (σ : Sg) (r : Int32 × Sg) (h : b_X7_sends_172b N k172 x2 x3 σ = some r) : am_Wp G mX7_sends 2 (am_qi r.1 r.2) 172 [some (.ref 60), none, some (.int x2), some (.int x3)] [] σ := by
  intro K h0 X
  unfold b_X7_sends_172b at h
  refine am_aload_n X dX7_sends_172 rfl rfl ?_
  refine am_getf (v := .ref 72) X dX7_sends_173 fl_X7_46 rfl rfl (by decide) ?_
  refine am_iload_n X dX7_sends_176 rfl rfl ?_
  obtain ⟨g, h⟩ := gd_some h
  refine am_iald X dX7_sends_177 rfl g ?_
  refine am_iconst (v := (-1 : Int32)) X dX7_sends_178 (by decide) ?_
  refine am_icmp_eq (tgt := 225) X dX7_sends_179 (by decide) (fun c => ?_) (fun c => ?_)
  · have h := if_t h c
    refine am_iconst (v := (1 : Int32)) X dX7_sends_225 (by decide) ?_
    obtain rfl := Option.some.inj h
    exact am_zret X h0 dX7_sends_226 rfl (by decide) ⟨rfl, rfl⟩
  · have h := if_f h c
    refine am_aload_n X dX7_sends_182 rfl rfl ?_
    refine am_getf (v := .ref 69) X dX7_sends_183 fl_X7_37 rfl rfl (by decide) ?_
    refine am_aload_n X dX7_sends_186 rfl rfl ?_
    refine am_getf (v := .ref 72) X dX7_sends_187 fl_X7_46 rfl rfl (by decide) ?_
    refine am_iload_n X dX7_sends_190 rfl rfl ?_
    obtain ⟨g, h⟩ := gd_some h
    refine am_iald X dX7_sends_191 rfl g ?_
    refine am_bipush (v := (100 : Int32)) X dX7_sends_192 (by decide) ?_
    refine am_irem X dX7_sends_194 (by decide) ?_
    refine am_dup2 X dX7_sends_195 rfl rfl ?_
    obtain ⟨g, h⟩ := gd_some h
    refine am_iald X dX7_sends_196 rfl g ?_
    refine am_aload_n X dX7_sends_197 rfl rfl ?_
    refine am_getf (v := .ref 72) X dX7_sends_198 fl_X7_46 rfl rfl (by decide) ?_
    refine am_iload_n X dX7_sends_201 rfl rfl ?_
    obtain ⟨g, h⟩ := gd_some h
    refine am_iald X dX7_sends_202 rfl g ?_
    refine am_bipush (v := (100 : Int32)) X dX7_sends_203 (by decide) ?_
    refine am_icmp_ge (tgt := 212) X dX7_sends_205 (by decide) (fun c => ?_) (fun c => ?_)
    · have h := if_t h c
      refine am_iload_n X dX7_sends_212 rfl rfl ?_
      refine am_ineg X dX7_sends_213 ?_
      exact am_jump (t_X7_sends_214 hG N k172 hk172 _ _ _ _ _ _ _ h K h0 X) rfl ⟨rfl, rfl, rfl, trivial⟩
    · have h := if_f h c
      refine am_iload_n X dX7_sends_208 rfl rfl ?_
      refine am_goto (tgt := 214) X dX7_sends_209 (by decide) ?_
      exact am_jump (t_X7_sends_214 hG N k172 hk172 _ _ _ _ _ _ _ h K h0 X) rfl ⟨rfl, rfl, rfl, trivial⟩
set_option maxRecDepth 100000 in
set_option maxHeartbeats 4000000 in
theorem t_X7_sends_172 {G : Cx} (hG : am_G G) (N : Nat) : ∀ (n : Nat) (x2 : Int32) (x3 : Int32) (σ : Sg) (r : Int32 × Sg), b_X7_sends_172 N n x2 x3 σ = some r → am_Wp G mX7_sends 2 (am_qi r.1 r.2) 172 [some (.ref 60), none, some (.int x2), some (.int x3)] [] σ := by
  intro n
  induction n with
  | zero => intro x2 x3 σ r h; cases h
  | succ n ih => intro x2 x3 σ r h; exact t_X7_sends_172b hG N (b_X7_sends_172 N n) ih x2 x3 σ r h
set_option maxRecDepth 100000 in
set_option maxHeartbeats 4000000 in
theorem t_X7_sends_149 {G : Cx} (hG : am_G G) (N : Nat) (x1 : Int32) (x3 : Int32) (s0 : Int32) (σ : Sg) (r : Int32 × Sg) (h : b_X7_sends_149 N x1 x3 s0 σ = some r) : am_Wp G mX7_sends 2 (am_qi r.1 r.2) 149 [some (.ref 60), some (.int x1), none, some (.int x3)] [.int s0] σ := by
  intro K h0 X
  unfold b_X7_sends_149 at h
  refine am_istore_n (ls' := [some (.ref 60), some (.int x1), some (.int s0), some (.int x3)]) X dX7_sends_149 rfl (by decide)  rfl rfl ?_
  refine am_aload_n X dX7_sends_150 rfl rfl ?_
  refine am_getf (v := .ref 70) X dX7_sends_151 fl_X7_40 rfl rfl (by decide) ?_
  refine am_iload_n X dX7_sends_154 rfl rfl ?_
  refine am_dup2 X dX7_sends_155 rfl rfl ?_
  obtain ⟨g, h⟩ := gd_some h
  refine am_iald X dX7_sends_156 rfl g ?_
  refine am_iload_n X dX7_sends_157 rfl rfl ?_
  refine am_isub X dX7_sends_158 ?_
  obtain ⟨g, h⟩ := gd_some h
  refine am_iast X dX7_sends_159 rfl g ?_
  refine am_tops h (fun σ159 h => ?_)
  refine am_aload_n X dX7_sends_160 rfl rfl ?_
  refine am_getf (v := .ref 70) X dX7_sends_161 fl_X7_40 rfl rfl (by decide) ?_
  refine am_iload_n X dX7_sends_164 rfl rfl ?_
  refine am_dup2 X dX7_sends_165 rfl rfl ?_
  obtain ⟨g, h⟩ := gd_some h
  refine am_iald X dX7_sends_166 rfl g ?_
  refine am_iload_n X dX7_sends_167 rfl rfl ?_
  refine am_iadd X dX7_sends_168 ?_
  obtain ⟨g, h⟩ := gd_some h
  refine am_iast X dX7_sends_169 rfl g ?_
  refine am_tops h (fun σ169 h => ?_)
  refine am_iload_n X dX7_sends_170 rfl rfl ?_
  refine am_istore_n (ls' := [some (.ref 60), some (.int x1), some (.int s0), some (.int x1)]) X dX7_sends_171 rfl (by decide)  rfl rfl ?_
  exact am_jump (t_X7_sends_172 hG N N _ _ _ _ h K h0 X) rfl ⟨rfl, rfl, rfl, trivial⟩
set_option maxRecDepth 100000 in
set_option maxHeartbeats 4000000 in
theorem t_X7_sends_119 {G : Cx} (hG : am_G G) (N : Nat) (k91 : Int32 → Int32 → Int32 → Sg → Option (Int32 × Sg)) (hk91 : ∀ (x1 : Int32) (x2 : Int32) (x3 : Int32) (σ : Sg) (r : Int32 × Sg), k91 x1 x2 x3 σ = some r → am_Wp G mX7_sends 2 (am_qi r.1 r.2) 91 [some (.ref 60), some (.int x1), some (.int x2), some (.int x3)] [] σ) (x1 : Int32) (x3 : Int32) (s0 : Int32) (σ : Sg) (r : Int32 × Sg) (h : b_X7_sends_119 N k91 x1 x3 s0 σ = some r) : am_Wp G mX7_sends 2 (am_qi r.1 r.2) 119 [some (.ref 60), some (.int x1), none, some (.int x3)] [.int s0] σ := by
  intro K h0 X
  unfold b_X7_sends_119 at h
  refine am_istore_n (ls' := [some (.ref 60), some (.int x1), some (.int s0), some (.int x3)]) X dX7_sends_119 rfl (by decide)  rfl rfl ?_
  refine am_aload_n X dX7_sends_120 rfl rfl ?_
  refine am_iload_n X dX7_sends_121 rfl rfl ?_
  obtain ⟨v122, σ122, hc, h⟩ := bd2_some h
  refine am_callv_i1 X dX7_sends_122 cw_X7_232 (ct_X7_before hG N _ _ _ hc) (Nat.le_of_ble_eq_true rfl) rfl rfl rfl rfl (Nat.le_of_ble_eq_true rfl) ?_
  refine am_istore_n (ls' := [some (.ref 60), some (.int x1), some (.int s0), some (.int v122)]) X dX7_sends_125 rfl (by decide)  rfl rfl ?_
  refine am_goto (tgt := 91) X dX7_sends_126 (by decide) ?_
  exact am_jump (hk91 _ _ _ _ _ h K h0 X) rfl ⟨rfl, rfl, rfl, rfl, trivial⟩
set_option maxRecDepth 100000 in
set_option maxHeartbeats 4000000 in
theorem t_X7_sends_91b {G : Cx} (hG : am_G G) (N : Nat) (k91 : Int32 → Int32 → Int32 → Sg → Option (Int32 × Sg)) (hk91 : ∀ (x1 : Int32) (x2 : Int32) (x3 : Int32) (σ : Sg) (r : Int32 × Sg), k91 x1 x2 x3 σ = some r → am_Wp G mX7_sends 2 (am_qi r.1 r.2) 91 [some (.ref 60), some (.int x1), some (.int x2), some (.int x3)] [] σ) (x1 : Int32) (x2 : Int32) (x3 : Int32) (σ : Sg) (r : Int32 × Sg) (h : b_X7_sends_91b N k91 x1 x2 x3 σ = some r) : am_Wp G mX7_sends 2 (am_qi r.1 r.2) 91 [some (.ref 60), some (.int x1), some (.int x2), some (.int x3)] [] σ := by
  intro K h0 X
  unfold b_X7_sends_91b at h
  refine am_aload_n X dX7_sends_91 rfl rfl ?_
  refine am_getf (v := .ref 72) X dX7_sends_92 fl_X7_46 rfl rfl (by decide) ?_
  refine am_iload_n X dX7_sends_95 rfl rfl ?_
  obtain ⟨g, h⟩ := gd_some h
  refine am_iald X dX7_sends_96 rfl g ?_
  refine am_iconst (v := (-1 : Int32)) X dX7_sends_97 (by decide) ?_
  refine am_icmp_eq (tgt := 129) X dX7_sends_98 (by decide) (fun c => ?_) (fun c => ?_)
  · have h := if_t h c
    refine am_aload_n X dX7_sends_129 rfl rfl ?_
    refine am_getf (v := .ref 70) X dX7_sends_130 fl_X7_40 rfl rfl (by decide) ?_
    refine am_iload_n X dX7_sends_133 rfl rfl ?_
    obtain ⟨g, h⟩ := gd_some h
    refine am_iald X dX7_sends_134 rfl g ?_
    refine am_iload_n X dX7_sends_135 rfl rfl ?_
    refine am_icmp_ge (tgt := 148) X dX7_sends_136 (by decide) (fun c => ?_) (fun c => ?_)
    · have h := if_t h c
      refine am_iload_n X dX7_sends_148 rfl rfl ?_
      exact am_jump (t_X7_sends_149 hG N _ _ _ _ _ h K h0 X) rfl ⟨rfl, rfl, rfl, trivial⟩
    · have h := if_f h c
      refine am_aload_n X dX7_sends_139 rfl rfl ?_
      refine am_getf (v := .ref 70) X dX7_sends_140 fl_X7_40 rfl rfl (by decide) ?_
      refine am_iload_n X dX7_sends_143 rfl rfl ?_
      obtain ⟨g, h⟩ := gd_some h
      refine am_iald X dX7_sends_144 rfl g ?_
      refine am_goto (tgt := 149) X dX7_sends_145 (by decide) ?_
      exact am_jump (t_X7_sends_149 hG N _ _ _ _ _ h K h0 X) rfl ⟨rfl, rfl, rfl, trivial⟩
  · have h := if_f h c
    refine am_aload_n X dX7_sends_101 rfl rfl ?_
    refine am_iload_n X dX7_sends_102 rfl rfl ?_
    obtain ⟨v103, σ103, hc, h⟩ := bd2_some h
    refine am_callv_i1 X dX7_sends_103 cw_X7_229 (ct_X7_roomBehind hG N _ _ _ hc) (Nat.le_of_ble_eq_true rfl) rfl rfl rfl rfl (Nat.le_of_ble_eq_true rfl) ?_
    refine am_iload_n X dX7_sends_106 rfl rfl ?_
    refine am_icmp_ge (tgt := 118) X dX7_sends_107 (by decide) (fun c => ?_) (fun c => ?_)
    · have h := if_t h c
      refine am_iload_n X dX7_sends_118 rfl rfl ?_
      exact am_jump (t_X7_sends_119 hG N k91 hk91 _ _ _ _ _ h K h0 X) rfl ⟨rfl, rfl, rfl, trivial⟩
    · have h := if_f h c
      refine am_aload_n X dX7_sends_110 rfl rfl ?_
      refine am_iload_n X dX7_sends_111 rfl rfl ?_
      obtain ⟨v112, σ112, hc, h⟩ := bd2_some h
      refine am_callv_i1 X dX7_sends_112 cw_X7_229 (ct_X7_roomBehind hG N _ _ _ hc) (Nat.le_of_ble_eq_true rfl) rfl rfl rfl rfl (Nat.le_of_ble_eq_true rfl) ?_
      refine am_goto (tgt := 119) X dX7_sends_115 (by decide) ?_
      exact am_jump (t_X7_sends_119 hG N k91 hk91 _ _ _ _ _ h K h0 X) rfl ⟨rfl, rfl, rfl, trivial⟩
set_option maxRecDepth 100000 in
set_option maxHeartbeats 4000000 in
theorem t_X7_sends_91 {G : Cx} (hG : am_G G) (N : Nat) : ∀ (n : Nat) (x1 : Int32) (x2 : Int32) (x3 : Int32) (σ : Sg) (r : Int32 × Sg), b_X7_sends_91 N n x1 x2 x3 σ = some r → am_Wp G mX7_sends 2 (am_qi r.1 r.2) 91 [some (.ref 60), some (.int x1), some (.int x2), some (.int x3)] [] σ := by
  intro n
  induction n with
  | zero => intro x1 x2 x3 σ r h; cases h
  | succ n ih => intro x1 x2 x3 σ r h; exact t_X7_sends_91b hG N (b_X7_sends_91 N n) ih x1 x2 x3 σ r h
set_option maxRecDepth 100000 in
set_option maxHeartbeats 4000000 in
theorem t_X7_sends_67 {G : Cx} (hG : am_G G) (N : Nat) (k8 : Int32 → Int32 → Sg → Option (Int32 × Sg)) (hk8 : ∀ (x1 : Int32) (x2 : Int32) (σ : Sg) (r : Int32 × Sg), k8 x1 x2 σ = some r → am_Wp G mX7_sends 2 (am_qi r.1 r.2) 8 [some (.ref 60), some (.int x1), some (.int x2), none] [] σ) (x2 : Int32) (s0 : Int32) (σ : Sg) (r : Int32 × Sg) (h : b_X7_sends_67 N k8 x2 s0 σ = some r) : am_Wp G mX7_sends 2 (am_qi r.1 r.2) 67 [some (.ref 60), none, some (.int x2), none] [.int s0] σ := by
  intro K h0 X
  unfold b_X7_sends_67 at h
  refine am_istore_n (ls' := [some (.ref 60), some (.int s0), some (.int x2), none]) X dX7_sends_67 rfl (by decide)  rfl rfl ?_
  refine am_iinc (ls' := fun x2_68 => [some (.ref 60), some (.int s0), some (.int x2_68), none]) X dX7_sends_68 rfl h (by decide) (by decide) rfl (fun _ => rfl) (fun x2_68 h => ?_)
  refine am_goto (tgt := 8) X dX7_sends_71 (by decide) ?_
  exact am_jump (hk8 _ _ _ _ h K h0 X) rfl ⟨rfl, rfl, rfl, trivial⟩
set_option maxRecDepth 100000 in
set_option maxHeartbeats 4000000 in
theorem t_X7_sends_66 {G : Cx} (hG : am_G G) (N : Nat) (k8 : Int32 → Int32 → Sg → Option (Int32 × Sg)) (hk8 : ∀ (x1 : Int32) (x2 : Int32) (σ : Sg) (r : Int32 × Sg), k8 x1 x2 σ = some r → am_Wp G mX7_sends 2 (am_qi r.1 r.2) 8 [some (.ref 60), some (.int x1), some (.int x2), none] [] σ) (x1 : Int32) (x2 : Int32) (σ : Sg) (r : Int32 × Sg) (h : b_X7_sends_66 N k8 x1 x2 σ = some r) : am_Wp G mX7_sends 2 (am_qi r.1 r.2) 66 [some (.ref 60), some (.int x1), some (.int x2), none] [] σ := by
  intro K h0 X
  unfold b_X7_sends_66 at h
  refine am_iload_n X dX7_sends_66 rfl rfl ?_
  exact am_jump (t_X7_sends_67 hG N k8 hk8 _ _ _ _ h K h0 X) rfl ⟨rfl, rfl, trivial⟩
set_option maxRecDepth 100000 in
set_option maxHeartbeats 4000000 in
theorem t_X7_sends_62 {G : Cx} (hG : am_G G) (N : Nat) (k8 : Int32 → Int32 → Sg → Option (Int32 × Sg)) (hk8 : ∀ (x1 : Int32) (x2 : Int32) (σ : Sg) (r : Int32 × Sg), k8 x1 x2 σ = some r → am_Wp G mX7_sends 2 (am_qi r.1 r.2) 8 [some (.ref 60), some (.int x1), some (.int x2), none] [] σ) (x2 : Int32) (σ : Sg) (r : Int32 × Sg) (h : b_X7_sends_62 N k8 x2 σ = some r) : am_Wp G mX7_sends 2 (am_qi r.1 r.2) 62 [some (.ref 60), none, some (.int x2), none] [] σ := by
  intro K h0 X
  unfold b_X7_sends_62 at h
  refine am_iload_n X dX7_sends_62 rfl rfl ?_
  refine am_goto (tgt := 67) X dX7_sends_63 (by decide) ?_
  exact am_jump (t_X7_sends_67 hG N k8 hk8 _ _ _ _ h K h0 X) rfl ⟨rfl, rfl, trivial⟩
set_option maxRecDepth 100000 in
set_option maxHeartbeats 4000000 in
theorem t_X7_sends_8b {G : Cx} (hG : am_G G) (N : Nat) (k8 : Int32 → Int32 → Sg → Option (Int32 × Sg)) (hk8 : ∀ (x1 : Int32) (x2 : Int32) (σ : Sg) (r : Int32 × Sg), k8 x1 x2 σ = some r → am_Wp G mX7_sends 2 (am_qi r.1 r.2) 8 [some (.ref 60), some (.int x1), some (.int x2), none] [] σ) (x1 : Int32) (x2 : Int32) (σ : Sg) (r : Int32 × Sg) (h : b_X7_sends_8b N k8 x1 x2 σ = some r) : am_Wp G mX7_sends 2 (am_qi r.1 r.2) 8 [some (.ref 60), some (.int x1), some (.int x2), none] [] σ := by
  intro K h0 X
  unfold b_X7_sends_8b at h
  refine am_iload_n X dX7_sends_8 rfl rfl ?_
  refine am_bipush (v := (8 : Int32)) X dX7_sends_9 (by decide) ?_
  refine am_icmp_ge (tgt := 74) X dX7_sends_11 (by decide) (fun c => ?_) (fun c => ?_)
  · have h := if_t h c
    refine am_iload_n X dX7_sends_74 rfl rfl ?_
    refine am_iconst (v := (-1 : Int32)) X dX7_sends_75 (by decide) ?_
    refine am_icmp_ne (tgt := 81) X dX7_sends_76 (by decide) (fun c => ?_) (fun c => ?_)
    · have h := if_f h c
      refine am_aload_n X dX7_sends_81 rfl rfl ?_
      refine am_getf (v := .ref 70) X dX7_sends_82 fl_X7_40 rfl rfl (by decide) ?_
      refine am_iload_n X dX7_sends_85 rfl rfl ?_
      obtain ⟨g, h⟩ := gd_some h
      refine am_iald X dX7_sends_86 rfl g ?_
      refine am_ineg X dX7_sends_87 ?_
      refine am_topi h (fun x2_88 h => ?_)
      refine am_istore_n (ls' := [some (.ref 60), some (.int x1), some (.int x2_88), none]) X dX7_sends_88 rfl (by decide)  rfl rfl ?_
      refine am_iload_n X dX7_sends_89 rfl rfl ?_
      refine am_istore_n (ls' := [some (.ref 60), some (.int x1), some (.int x2_88), some (.int x1)]) X dX7_sends_90 rfl (by decide)  rfl rfl ?_
      exact am_jump (t_X7_sends_91 hG N N _ _ _ _ _ h K h0 X) rfl ⟨rfl, rfl, rfl, rfl, trivial⟩
    · have h := if_t h c
      refine am_iconst (v := (0 : Int32)) X dX7_sends_79 (by decide) ?_
      obtain rfl := Option.some.inj h
      exact am_zret X h0 dX7_sends_80 rfl (by decide) ⟨rfl, rfl⟩
  · have h := if_f h c
    refine am_aload_n X dX7_sends_14 rfl rfl ?_
    refine am_iload_n X dX7_sends_15 rfl rfl ?_
    obtain ⟨v16, σ16, hc, h⟩ := bd2_some h
    refine am_callv_i1 X dX7_sends_16 cw_X7_223 (ct_X7_isPlace hG N _ _ _ hc) (Nat.le_of_ble_eq_true rfl) rfl rfl rfl rfl (Nat.le_of_ble_eq_true rfl) ?_
    refine am_if_eq (tgt := 66) X dX7_sends_19 (by decide) (fun c => ?_) (fun c => ?_)
    · have h := if_t h c
      exact am_jump (t_X7_sends_66 hG N k8 hk8 _ _ _ _ h K h0 X) rfl ⟨rfl, rfl, rfl, trivial⟩
    · have h := if_f h c
      refine am_aload_n X dX7_sends_22 rfl rfl ?_
      refine am_getf (v := .ref 70) X dX7_sends_23 fl_X7_40 rfl rfl (by decide) ?_
      refine am_iload_n X dX7_sends_26 rfl rfl ?_
      obtain ⟨g, h⟩ := gd_some h
      refine am_iald X dX7_sends_27 rfl g ?_
      refine am_if_ge (tgt := 66) X dX7_sends_28 (by decide) (fun c => ?_) (fun c => ?_)
      · have h := if_t h c
        exact am_jump (t_X7_sends_66 hG N k8 hk8 _ _ _ _ h K h0 X) rfl ⟨rfl, rfl, rfl, trivial⟩
      · have h := if_f h c
        refine am_aload_n X dX7_sends_31 rfl rfl ?_
        refine am_getf (v := .ref 71) X dX7_sends_32 fl_X7_43 rfl rfl (by decide) ?_
        refine am_iload_n X dX7_sends_35 rfl rfl ?_
        obtain ⟨g, h⟩ := gd_some h
        refine am_iald X dX7_sends_36 rfl g ?_
        refine am_ldc (v := (1000000000 : Int32)) X dX7_sends_37 (wm_r27 _ (List.mem_of_getElem? (i := 1) rfl)) ?_
        refine am_icmp_ge (tgt := 66) X dX7_sends_39 (by decide) (fun c => ?_) (fun c => ?_)
        · have h := if_t h c
          exact am_jump (t_X7_sends_66 hG N k8 hk8 _ _ _ _ h K h0 X) rfl ⟨rfl, rfl, rfl, trivial⟩
        · have h := if_f h c
          refine am_iload_n X dX7_sends_42 rfl rfl ?_
          refine am_iconst (v := (-1 : Int32)) X dX7_sends_43 (by decide) ?_
          refine am_icmp_eq (tgt := 62) X dX7_sends_44 (by decide) (fun c => ?_) (fun c => ?_)
          · have h := if_t h c
            exact am_jump (t_X7_sends_62 hG N k8 hk8 _ _ _ h K h0 X) rfl ⟨rfl, rfl, trivial⟩
          · have h := if_f h c
            refine am_aload_n X dX7_sends_47 rfl rfl ?_
            refine am_getf (v := .ref 71) X dX7_sends_48 fl_X7_43 rfl rfl (by decide) ?_
            refine am_iload_n X dX7_sends_51 rfl rfl ?_
            obtain ⟨g, h⟩ := gd_some h
            refine am_iald X dX7_sends_52 rfl g ?_
            refine am_aload_n X dX7_sends_53 rfl rfl ?_
            refine am_getf (v := .ref 71) X dX7_sends_54 fl_X7_43 rfl rfl (by decide) ?_
            refine am_iload_n X dX7_sends_57 rfl rfl ?_
            obtain ⟨g, h⟩ := gd_some h
            refine am_iald X dX7_sends_58 rfl g ?_
            refine am_icmp_ge (tgt := 66) X dX7_sends_59 (by decide) (fun c => ?_) (fun c => ?_)
            · have h := if_t h c
              exact am_jump (t_X7_sends_66 hG N k8 hk8 _ _ _ _ h K h0 X) rfl ⟨rfl, rfl, rfl, trivial⟩
            · have h := if_f h c
              exact am_jump (t_X7_sends_62 hG N k8 hk8 _ _ _ h K h0 X) rfl ⟨rfl, rfl, trivial⟩
set_option maxRecDepth 100000 in
set_option maxHeartbeats 4000000 in
theorem t_X7_sends_8 {G : Cx} (hG : am_G G) (N : Nat) : ∀ (n : Nat) (x1 : Int32) (x2 : Int32) (σ : Sg) (r : Int32 × Sg), b_X7_sends_8 N n x1 x2 σ = some r → am_Wp G mX7_sends 2 (am_qi r.1 r.2) 8 [some (.ref 60), some (.int x1), some (.int x2), none] [] σ := by
  intro n
  induction n with
  | zero => intro x1 x2 σ r h; cases h
  | succ n ih => intro x1 x2 σ r h; exact t_X7_sends_8b hG N (b_X7_sends_8 N n) ih x1 x2 σ r h
set_option maxRecDepth 100000 in
set_option maxHeartbeats 4000000 in
theorem ct_X7_sends {G : Cx} (hG : am_G G) (N : Nat) (σ : Sg) (r : Int32 × Sg) (h : f_X7_sends N σ = some r) : am_Ct G 3 yX7_sends mX7_sends [.ref 60] σ (am_qi r.1 r.2) := by
  refine am_enter hG rfl rfl (Nat.le_of_ble_eq_true rfl) ?_
  intro K h0 X
  unfold f_X7_sends at h
  refine am_jump (pc' := 0) (ls' := [some (.ref 60), none, none, none]) ?_ rfl ⟨rfl, trivial⟩
  refine am_aload_n X dX7_sends_0 rfl rfl ?_
  obtain ⟨σ1, hc, h⟩ := bd_some h
  refine am_callv_v0 X dX7_sends_1 cw_X7_226 (ct_X7_looksForFar hG N _ _ hc) (Nat.le_of_ble_eq_true rfl) rfl rfl rfl rfl (Nat.le_of_ble_eq_true rfl) ?_
  refine am_iconst (v := (-1 : Int32)) X dX7_sends_4 (by decide) ?_
  refine am_istore_n (ls' := [some (.ref 60), some (.int (-1 : Int32)), none, none]) X dX7_sends_5 rfl (by decide)  rfl rfl ?_
  refine am_iconst (v := (0 : Int32)) X dX7_sends_6 (by decide) ?_
  refine am_istore_n (ls' := [some (.ref 60), some (.int (-1 : Int32)), some (.int (0 : Int32)), none]) X dX7_sends_7 rfl (by decide)  rfl rfl ?_
  exact am_jump (t_X7_sends_8 hG N N _ _ _ _ h K h0 X) rfl ⟨rfl, rfl, rfl, trivial⟩
set_option maxRecDepth 100000 in
set_option maxHeartbeats 4000000 in
theorem t_X7_costBy_65b {G : Cx} (hG : am_G G) (N : Nat) (k65 : Int32 → Int32 → Sg → Option (Int32 × Sg)) (hk65 : ∀ (x3 : Int32) (x4 : Int32) (σ : Sg) (r : Int32 × Sg), k65 x3 x4 σ = some r → am_Wp G mX7_costBy 3 (am_qi r.1 r.2) 65 [some (.ref 60), none, none, some (.int x3), some (.int x4)] [] σ) (x3 : Int32) (x4 : Int32) (σ : Sg) (r : Int32 × Sg) (h : b_X7_costBy_65b N k65 x3 x4 σ = some r) : am_Wp G mX7_costBy 3 (am_qi r.1 r.2) 65 [some (.ref 60), none, none, some (.int x3), some (.int x4)] [] σ := by
  intro K h0 X
  unfold b_X7_costBy_65b at h
  refine am_iload X dX7_costBy_65 rfl ?_
  refine am_aload_n X dX7_costBy_67 rfl rfl ?_
  refine am_getf (v := .int (rg σ 60 19)) X dX7_costBy_68 fl_X7_215 rfl rfl (by decide) ?_
  refine am_icmp_ge (tgt := 103) X dX7_costBy_71 (by decide) (fun c => ?_) (fun c => ?_)
  · have h := if_t h c
    refine am_iload_n X dX7_costBy_103 rfl rfl ?_
    obtain rfl := Option.some.inj h
    exact am_iret X h0 dX7_costBy_104 rfl ⟨rfl, rfl⟩
  · have h := if_f h c
    refine am_iload_n X dX7_costBy_74 rfl rfl ?_
    refine am_iconst (v := (-1 : Int32)) X dX7_costBy_75 (by decide) ?_
    refine am_icmp_eq (tgt := 103) X dX7_costBy_76 (by decide) (fun c => ?_) (fun c => ?_)
    · have h := if_t h c
      refine am_iload_n X dX7_costBy_103 rfl rfl ?_
      obtain rfl := Option.some.inj h
      exact am_iret X h0 dX7_costBy_104 rfl ⟨rfl, rfl⟩
    · have h := if_f h c
      refine am_iload_n X dX7_costBy_79 rfl rfl ?_
      refine am_aload_n X dX7_costBy_80 rfl rfl ?_
      refine am_getf (v := .ref 69) X dX7_costBy_81 fl_X7_37 rfl rfl (by decide) ?_
      refine am_iload X dX7_costBy_84 rfl ?_
      obtain ⟨g, h⟩ := gd_some h
      refine am_iald X dX7_costBy_86 rfl g ?_
      refine am_aload_n X dX7_costBy_87 rfl rfl ?_
      refine am_getf (v := .ref 67) X dX7_costBy_88 fl_X7_31 rfl rfl (by decide) ?_
      refine am_iload X dX7_costBy_91 rfl ?_
      obtain ⟨g, h⟩ := gd_some h
      refine am_iald X dX7_costBy_93 rfl g ?_
      refine am_imul X dX7_costBy_94 ?_
      refine am_iadd X dX7_costBy_95 ?_
      refine am_topi h (fun x3_96 h => ?_)
      refine am_istore_n (ls' := [some (.ref 60), none, none, some (.int x3_96), some (.int x4)]) X dX7_costBy_96 rfl (by decide)  rfl rfl ?_
      refine am_iinc (ls' := fun x4_97 => [some (.ref 60), none, none, some (.int x3_96), some (.int x4_97)]) X dX7_costBy_97 rfl h (by decide) (by decide) rfl (fun _ => rfl) (fun x4_97 h => ?_)
      refine am_goto (tgt := 65) X dX7_costBy_100 (by decide) ?_
      exact am_jump (hk65 _ _ _ _ h K h0 X) rfl ⟨rfl, rfl, rfl, trivial⟩
set_option maxRecDepth 100000 in
set_option maxHeartbeats 4000000 in
theorem t_X7_costBy_65 {G : Cx} (hG : am_G G) (N : Nat) : ∀ (n : Nat) (x3 : Int32) (x4 : Int32) (σ : Sg) (r : Int32 × Sg), b_X7_costBy_65 N n x3 x4 σ = some r → am_Wp G mX7_costBy 3 (am_qi r.1 r.2) 65 [some (.ref 60), none, none, some (.int x3), some (.int x4)] [] σ := by
  intro n
  induction n with
  | zero => intro x3 x4 σ r h; cases h
  | succ n ih => intro x3 x4 σ r h; exact t_X7_costBy_65b hG N (b_X7_costBy_65 N n) ih x3 x4 σ r h
set_option maxRecDepth 100000 in
set_option maxHeartbeats 4000000 in
theorem t_X7_costBy_55 {G : Cx} (hG : am_G G) (N : Nat) (k24 : Int32 → Int32 → Sg → Option (Int32 × Sg)) (hk24 : ∀ (x3 : Int32) (x4 : Int32) (σ : Sg) (r : Int32 × Sg), k24 x3 x4 σ = some r → am_Wp G mX7_costBy 3 (am_qi r.1 r.2) 24 [some (.ref 60), none, none, some (.int x3), some (.int x4)] [] σ) (x4 : Int32) (s0 : Int32) (σ : Sg) (r : Int32 × Sg) (h : b_X7_costBy_55 N k24 x4 s0 σ = some r) : am_Wp G mX7_costBy 3 (am_qi r.1 r.2) 55 [some (.ref 60), none, none, none, some (.int x4)] [.int s0] σ := by
  intro K h0 X
  unfold b_X7_costBy_55 at h
  refine am_istore_n (ls' := [some (.ref 60), none, none, some (.int s0), some (.int x4)]) X dX7_costBy_55 rfl (by decide)  rfl rfl ?_
  refine am_iinc (ls' := fun x4_56 => [some (.ref 60), none, none, some (.int s0), some (.int x4_56)]) X dX7_costBy_56 rfl h (by decide) (by decide) rfl (fun _ => rfl) (fun x4_56 h => ?_)
  refine am_goto (tgt := 24) X dX7_costBy_59 (by decide) ?_
  exact am_jump (hk24 _ _ _ _ h K h0 X) rfl ⟨rfl, rfl, rfl, trivial⟩
set_option maxRecDepth 100000 in
set_option maxHeartbeats 4000000 in
theorem t_X7_costBy_54 {G : Cx} (hG : am_G G) (N : Nat) (k24 : Int32 → Int32 → Sg → Option (Int32 × Sg)) (hk24 : ∀ (x3 : Int32) (x4 : Int32) (σ : Sg) (r : Int32 × Sg), k24 x3 x4 σ = some r → am_Wp G mX7_costBy 3 (am_qi r.1 r.2) 24 [some (.ref 60), none, none, some (.int x3), some (.int x4)] [] σ) (x3 : Int32) (x4 : Int32) (σ : Sg) (r : Int32 × Sg) (h : b_X7_costBy_54 N k24 x3 x4 σ = some r) : am_Wp G mX7_costBy 3 (am_qi r.1 r.2) 54 [some (.ref 60), none, none, some (.int x3), some (.int x4)] [] σ := by
  intro K h0 X
  unfold b_X7_costBy_54 at h
  refine am_iload_n X dX7_costBy_54 rfl rfl ?_
  exact am_jump (t_X7_costBy_55 hG N k24 hk24 _ _ _ _ h K h0 X) rfl ⟨rfl, rfl, trivial⟩
set_option maxRecDepth 100000 in
set_option maxHeartbeats 4000000 in
theorem t_X7_costBy_24b {G : Cx} (hG : am_G G) (N : Nat) (k24 : Int32 → Int32 → Sg → Option (Int32 × Sg)) (hk24 : ∀ (x3 : Int32) (x4 : Int32) (σ : Sg) (r : Int32 × Sg), k24 x3 x4 σ = some r → am_Wp G mX7_costBy 3 (am_qi r.1 r.2) 24 [some (.ref 60), none, none, some (.int x3), some (.int x4)] [] σ) (x3 : Int32) (x4 : Int32) (σ : Sg) (r : Int32 × Sg) (h : b_X7_costBy_24b N k24 x3 x4 σ = some r) : am_Wp G mX7_costBy 3 (am_qi r.1 r.2) 24 [some (.ref 60), none, none, some (.int x3), some (.int x4)] [] σ := by
  intro K h0 X
  unfold b_X7_costBy_24b at h
  refine am_iload X dX7_costBy_24 rfl ?_
  refine am_bipush (v := (8 : Int32)) X dX7_costBy_26 (by decide) ?_
  refine am_icmp_ge (tgt := 62) X dX7_costBy_28 (by decide) (fun c => ?_) (fun c => ?_)
  · have h := if_t h c
    refine am_iconst (v := (0 : Int32)) X dX7_costBy_62 (by decide) ?_
    refine am_istore (ls' := [some (.ref 60), none, none, some (.int x3), some (.int (0 : Int32))]) X dX7_costBy_63 (by decide)  rfl rfl ?_
    exact am_jump (t_X7_costBy_65 hG N N _ _ _ _ h K h0 X) rfl ⟨rfl, rfl, rfl, trivial⟩
  · have h := if_f h c
    refine am_aload_n X dX7_costBy_31 rfl rfl ?_
    refine am_iload X dX7_costBy_32 rfl ?_
    obtain ⟨v34, σ34, hc, h⟩ := bd2_some h
    refine am_callv_i1 X dX7_costBy_34 cw_X7_223 (ct_X7_isPlace hG N _ _ _ hc) (Nat.le_of_ble_eq_true rfl) rfl rfl rfl rfl (Nat.le_of_ble_eq_true rfl) ?_
    refine am_if_eq (tgt := 54) X dX7_costBy_37 (by decide) (fun c => ?_) (fun c => ?_)
    · have h := if_t h c
      exact am_jump (t_X7_costBy_54 hG N k24 hk24 _ _ _ _ h K h0 X) rfl ⟨rfl, rfl, rfl, trivial⟩
    · have h := if_f h c
      refine am_aload_n X dX7_costBy_40 rfl rfl ?_
      refine am_getf (v := .ref 70) X dX7_costBy_41 fl_X7_40 rfl rfl (by decide) ?_
      refine am_iload X dX7_costBy_44 rfl ?_
      obtain ⟨g, h⟩ := gd_some h
      refine am_iald X dX7_costBy_46 rfl g ?_
      refine am_if_eq (tgt := 54) X dX7_costBy_47 (by decide) (fun c => ?_) (fun c => ?_)
      · have h := if_t h c
        exact am_jump (t_X7_costBy_54 hG N k24 hk24 _ _ _ _ h K h0 X) rfl ⟨rfl, rfl, rfl, trivial⟩
      · have h := if_f h c
        refine am_iconst (v := (-1 : Int32)) X dX7_costBy_50 (by decide) ?_
        refine am_goto (tgt := 55) X dX7_costBy_51 (by decide) ?_
        exact am_jump (t_X7_costBy_55 hG N k24 hk24 _ _ _ _ h K h0 X) rfl ⟨rfl, rfl, trivial⟩
set_option maxRecDepth 100000 in
set_option maxHeartbeats 4000000 in
theorem t_X7_costBy_24 {G : Cx} (hG : am_G G) (N : Nat) : ∀ (n : Nat) (x3 : Int32) (x4 : Int32) (σ : Sg) (r : Int32 × Sg), b_X7_costBy_24 N n x3 x4 σ = some r → am_Wp G mX7_costBy 3 (am_qi r.1 r.2) 24 [some (.ref 60), none, none, some (.int x3), some (.int x4)] [] σ := by
  intro n
  induction n with
  | zero => intro x3 x4 σ r h; cases h
  | succ n ih => intro x3 x4 σ r h; exact t_X7_costBy_24b hG N (b_X7_costBy_24 N n) ih x3 x4 σ r h
set_option maxRecDepth 100000 in
set_option maxHeartbeats 4000000 in
theorem t_X7_costBy_7b {G : Cx} (hG : am_G G) (N : Nat) (k7 : Int32 → Sg → Option (Int32 × Sg)) (hk7 : ∀ (x2 : Int32) (σ : Sg) (r : Int32 × Sg), k7 x2 σ = some r → am_Wp G mX7_costBy 3 (am_qi r.1 r.2) 7 [some (.ref 60), none, some (.int x2), none, none] [] σ) (x2 : Int32) (σ : Sg) (r : Int32 × Sg) (h : b_X7_costBy_7b N k7 x2 σ = some r) : am_Wp G mX7_costBy 3 (am_qi r.1 r.2) 7 [some (.ref 60), none, some (.int x2), none, none] [] σ := by
  intro K h0 X
  unfold b_X7_costBy_7b at h
  refine am_iload_n X dX7_costBy_7 rfl rfl ?_
  refine am_if_eq (tgt := 19) X dX7_costBy_8 (by decide) (fun c => ?_) (fun c => ?_)
  · have h := if_t h c
    refine am_iconst (v := (0 : Int32)) X dX7_costBy_19 (by decide) ?_
    refine am_istore_n (ls' := [some (.ref 60), none, some (.int x2), some (.int (0 : Int32)), none]) X dX7_costBy_20 rfl (by decide)  rfl rfl ?_
    refine am_iconst (v := (0 : Int32)) X dX7_costBy_21 (by decide) ?_
    refine am_istore (ls' := [some (.ref 60), none, some (.int x2), some (.int (0 : Int32)), some (.int (0 : Int32))]) X dX7_costBy_22 (by decide)  rfl rfl ?_
    exact am_jump (t_X7_costBy_24 hG N N _ _ _ _ h K h0 X) rfl ⟨rfl, rfl, rfl, trivial⟩
  · have h := if_f h c
    refine am_aload_n X dX7_costBy_11 rfl rfl ?_
    obtain ⟨v12, σ12, hc, h⟩ := bd2_some h
    refine am_callv_i0 X dX7_costBy_12 cw_X7_239 (ct_X7_sends hG N _ _ hc) (Nat.le_of_ble_eq_true rfl) rfl rfl rfl rfl (Nat.le_of_ble_eq_true rfl) ?_
    refine am_istore_n (ls' := [some (.ref 60), none, some (.int v12), none, none]) X dX7_costBy_15 rfl (by decide)  rfl rfl ?_
    refine am_goto (tgt := 7) X dX7_costBy_16 (by decide) ?_
    exact am_jump (hk7 _ _ _ h K h0 X) rfl ⟨rfl, rfl, trivial⟩
set_option maxRecDepth 100000 in
set_option maxHeartbeats 4000000 in
theorem t_X7_costBy_7 {G : Cx} (hG : am_G G) (N : Nat) : ∀ (n : Nat) (x2 : Int32) (σ : Sg) (r : Int32 × Sg), b_X7_costBy_7 N n x2 σ = some r → am_Wp G mX7_costBy 3 (am_qi r.1 r.2) 7 [some (.ref 60), none, some (.int x2), none, none] [] σ := by
  intro n
  induction n with
  | zero => intro x2 σ r h; cases h
  | succ n ih => intro x2 σ r h; exact t_X7_costBy_7b hG N (b_X7_costBy_7 N n) ih x2 σ r h
set_option maxRecDepth 100000 in
set_option maxHeartbeats 4000000 in
theorem ct_X7_costBy {G : Cx} (hG : am_G G) (N : Nat) (x1 : Int32) (σ : Sg) (r : Int32 × Sg) (h : f_X7_costBy N x1 σ = some r) : am_Ct G 4 yX7_costBy mX7_costBy [.ref 60, .int x1] σ (am_qi r.1 r.2) := by
  refine am_enter hG rfl rfl (Nat.le_of_ble_eq_true rfl) ?_
  intro K h0 X
  unfold f_X7_costBy at h
  refine am_jump (pc' := 0) (ls' := [some (.ref 60), some (.int x1), none, none, none]) ?_ rfl ⟨rfl, rfl, trivial⟩
  refine am_aload_n X dX7_costBy_0 rfl rfl ?_
  refine am_iload_n X dX7_costBy_1 rfl rfl ?_
  obtain ⟨σ2, hc, h⟩ := bd_some h
  refine am_callv_v1 X dX7_costBy_2 cw_X7_235 (ct_X7_looksForRoads hG N _ _ _ hc) (Nat.le_of_ble_eq_true rfl) rfl rfl rfl rfl (Nat.le_of_ble_eq_true rfl) ?_
  refine am_iconst (v := (1 : Int32)) X dX7_costBy_5 (by decide) ?_
  refine am_istore_n (ls' := [some (.ref 60), some (.int x1), some (.int (1 : Int32)), none, none]) X dX7_costBy_6 rfl (by decide)  rfl rfl ?_
  exact am_jump (t_X7_costBy_7 hG N N _ _ _ h K h0 X) rfl ⟨rfl, rfl, trivial⟩
set_option maxRecDepth 100000 in
set_option maxHeartbeats 4000000 in
theorem t_X7_cost_26 {G : Cx} (hG : am_G G) (N : Nat) (s1 : Int32) (σ : Sg) (r : Int32 × Sg) (h : b_X7_cost_26 N s1 σ = some r) : am_Wp G mX7_cost 4 (am_qi r.1 r.2) 26 [none, none, none] [.int s1, .ref 60] σ := by
  intro K h0 X
  unfold b_X7_cost_26 at h
  obtain ⟨v26, σ26, hc, h⟩ := bd2_some h
  refine am_callv_i1 X dX7_cost_26 cw_X7_246 (ct_X7_costBy hG N _ _ _ hc) (Nat.le_of_ble_eq_true rfl) rfl rfl rfl rfl (Nat.le_of_ble_eq_true rfl) ?_
  refine am_istore_n (ls' := [none, none, some (.int v26)]) X dX7_cost_29 rfl (by decide)  rfl rfl ?_
  refine am_iload_n X dX7_cost_30 rfl rfl ?_
  refine am_iconst (v := (-1 : Int32)) X dX7_cost_31 (by decide) ?_
  refine am_icmp_ne (tgt := 40) X dX7_cost_32 (by decide) (fun c => ?_) (fun c => ?_)
  · have h := if_f h c
    refine am_iload_n X dX7_cost_40 rfl rfl ?_
    obtain rfl := Option.some.inj h
    exact am_iret X h0 dX7_cost_41 rfl ⟨rfl, rfl⟩
  · have h := if_t h c
    refine am_bipush (v := (-5 : Int32)) X dX7_cost_35 (by decide) ?_
    refine am_goto (tgt := 41) X dX7_cost_37 (by decide) ?_
    obtain rfl := Option.some.inj h
    exact am_iret X h0 dX7_cost_41 rfl ⟨rfl, rfl⟩
set_option maxRecDepth 100000 in
set_option maxHeartbeats 4000000 in
theorem ct_X7_cost {G : Cx} (hG : am_G G) (N : Nat) (x1 : Int32) (σ : Sg) (r : Int32 × Sg) (h : f_X7_cost N x1 σ = some r) : am_Ct G 5 yX7_cost mX7_cost [.ref 60, .int x1] σ (am_qi r.1 r.2) := by
  refine am_enter hG rfl rfl (Nat.le_of_ble_eq_true rfl) ?_
  intro K h0 X
  unfold f_X7_cost at h
  refine am_jump (pc' := 0) (ls' := [some (.ref 60), some (.int x1), none]) ?_ rfl ⟨rfl, rfl, trivial⟩
  refine am_iload_n X dX7_cost_0 rfl rfl ?_
  refine am_iconst (v := (0 : Int32)) X dX7_cost_1 (by decide) ?_
  refine am_iconst (v := (1 : Int32)) X dX7_cost_2 (by decide) ?_
  obtain ⟨v3, σ3, hc, h⟩ := bd2_some h
  refine am_calls_i3 X dX7_cost_3 cw_X7_84 (ct_X7_in hG N _ _ _ _ _ hc) (Nat.le_of_ble_eq_true rfl) rfl (Nat.le_of_ble_eq_true rfl) ?_
  refine am_if_ne (tgt := 11) X dX7_cost_6 (by decide) (fun c => ?_) (fun c => ?_)
  · have h := if_f h c
    refine am_aload_n X dX7_cost_11 rfl rfl ?_
    obtain ⟨σ12, hc, h⟩ := bd_some h
    refine am_callv_v0 X dX7_cost_12 cw_X7_243 (ct_X7_looksForAll hG N _ _ hc) (Nat.le_of_ble_eq_true rfl) rfl rfl rfl rfl (Nat.le_of_ble_eq_true rfl) ?_
    refine am_aload_n X dX7_cost_15 rfl rfl ?_
    refine am_iload_n X dX7_cost_16 rfl rfl ?_
    refine am_iconst (v := (1 : Int32)) X dX7_cost_17 (by decide) ?_
    refine am_icmp_ne (tgt := 25) X dX7_cost_18 (by decide) (fun c => ?_) (fun c => ?_)
    · have h := if_f h c
      refine am_iconst (v := (0 : Int32)) X dX7_cost_25 (by decide) ?_
      exact am_jump (t_X7_cost_26 hG N _ _ _ h K h0 X) rfl trivial
    · have h := if_t h c
      refine am_iconst (v := (1 : Int32)) X dX7_cost_21 (by decide) ?_
      refine am_goto (tgt := 26) X dX7_cost_22 (by decide) ?_
      exact am_jump (t_X7_cost_26 hG N _ _ _ h K h0 X) rfl trivial
  · have h := if_t h c
    refine am_iconst (v := (-1 : Int32)) X dX7_cost_9 (by decide) ?_
    obtain rfl := Option.some.inj h
    exact am_iret X h0 dX7_cost_10 rfl ⟨rfl, rfl⟩
set_option maxRecDepth 100000 in
set_option maxHeartbeats 4000000 in
theorem ct_X7_count {G : Cx} (hG : am_G G) (N : Nat) (x1 : Int32) (σ : Sg) (r : Int32 × Sg) (h : f_X7_count N x1 σ = some r) : am_Ct G 1 yX7_count mX7_count [.ref 60, .int x1] σ (am_qi r.1 r.2) := by
  refine am_enter hG rfl rfl (Nat.le_of_ble_eq_true rfl) ?_
  intro K h0 X
  unfold f_X7_count at h
  refine am_jump (pc' := 0) (ls' := [some (.ref 60), some (.int x1)]) ?_ rfl ⟨rfl, rfl, trivial⟩
  refine am_iload_n X dX7_count_0 rfl rfl ?_
  by_cases c0 : x1 = (0 : Int32)
  · have h := if_t h c0
    refine am_tabIn (tgt := 36) X dX7_count_1 c0 (by decide) (by decide) rfl (by decide) ?_
    refine am_aload_n X dX7_count_36 rfl rfl ?_
    refine am_getf (v := .ref 61) X dX7_count_37 fl_X7_9 rfl rfl (by decide) ?_
    refine am_iconst (v := (0 : Int32)) X dX7_count_40 (by decide) ?_
    obtain ⟨g, h⟩ := gd_some h
    refine am_iald X dX7_count_41 rfl g ?_
    obtain rfl := Option.some.inj h
    exact am_iret X h0 dX7_count_42 rfl ⟨rfl, rfl⟩
  have h := if_f h c0
  by_cases c1 : x1 = (1 : Int32)
  · have h := if_t h c1
    refine am_tabIn (tgt := 43) X dX7_count_1 c1 (by decide) (by decide) rfl (by decide) ?_
    refine am_aload_n X dX7_count_43 rfl rfl ?_
    refine am_getf (v := .ref 61) X dX7_count_44 fl_X7_9 rfl rfl (by decide) ?_
    refine am_iconst (v := (1 : Int32)) X dX7_count_47 (by decide) ?_
    obtain ⟨g, h⟩ := gd_some h
    refine am_iald X dX7_count_48 rfl g ?_
    obtain rfl := Option.some.inj h
    exact am_iret X h0 dX7_count_49 rfl ⟨rfl, rfl⟩
  have h := if_f h c1
  by_cases c2 : x1 = (2 : Int32)
  · have h := if_t h c2
    refine am_tabIn (tgt := 50) X dX7_count_1 c2 (by decide) (by decide) rfl (by decide) ?_
    refine am_aload_n X dX7_count_50 rfl rfl ?_
    refine am_getf (v := .ref 61) X dX7_count_51 fl_X7_9 rfl rfl (by decide) ?_
    refine am_iconst (v := (2 : Int32)) X dX7_count_54 (by decide) ?_
    obtain ⟨g, h⟩ := gd_some h
    refine am_iald X dX7_count_55 rfl g ?_
    obtain rfl := Option.some.inj h
    exact am_iret X h0 dX7_count_56 rfl ⟨rfl, rfl⟩
  have h := if_f h c2
  by_cases c3 : x1 = (3 : Int32)
  · have h := if_t h c3
    refine am_tabIn (tgt := 57) X dX7_count_1 c3 (by decide) (by decide) rfl (by decide) ?_
    refine am_aload_n X dX7_count_57 rfl rfl ?_
    refine am_getf (v := .ref 61) X dX7_count_58 fl_X7_9 rfl rfl (by decide) ?_
    refine am_iconst (v := (3 : Int32)) X dX7_count_61 (by decide) ?_
    obtain ⟨g, h⟩ := gd_some h
    refine am_iald X dX7_count_62 rfl g ?_
    obtain rfl := Option.some.inj h
    exact am_iret X h0 dX7_count_63 rfl ⟨rfl, rfl⟩
  have h := if_f h c3
  by_cases c4 : x1 = (4 : Int32)
  · have h := if_t h c4
    refine am_tabIn (tgt := 64) X dX7_count_1 c4 (by decide) (by decide) rfl (by decide) ?_
    refine am_aload_n X dX7_count_64 rfl rfl ?_
    refine am_getf (v := .int (rg σ 60 34)) X dX7_count_65 fl_X7_278 rfl rfl (by decide) ?_
    obtain rfl := Option.some.inj h
    exact am_iret X h0 dX7_count_68 rfl ⟨rfl, rfl⟩
  have h := if_f h c4
  refine am_tabOut (tgt := 69) (vs := [(0 : Int32), (1 : Int32), (2 : Int32), (3 : Int32), (4 : Int32)]) X dX7_count_1 (List.forall_mem_cons.mpr ⟨c0, (List.forall_mem_cons.mpr ⟨c1, (List.forall_mem_cons.mpr ⟨c2, (List.forall_mem_cons.mpr ⟨c3, (List.forall_mem_cons.mpr ⟨c4, (fun _ h => absurd h List.not_mem_nil)⟩)⟩)⟩)⟩)⟩) (by decide) (by decide) ?_
  refine am_iconst (v := (-1 : Int32)) X dX7_count_69 (by decide) ?_
  obtain rfl := Option.some.inj h
  exact am_iret X h0 dX7_count_70 rfl ⟨rfl, rfl⟩
set_option maxRecDepth 100000 in
set_option maxHeartbeats 4000000 in
theorem ct_X7_day {G : Cx} (hG : am_G G) (N : Nat) (x1 : Int32) (σ : Sg) (r : Int32 × Sg) (h : f_X7_day N x1 σ = some r) : am_Ct G 2 yX7_day mX7_day [.ref 60, .int x1] σ (am_qi r.1 r.2) := by
  refine am_enter hG rfl rfl (Nat.le_of_ble_eq_true rfl) ?_
  intro K h0 X
  unfold f_X7_day at h
  refine am_jump (pc' := 0) (ls' := [some (.ref 60), some (.int x1), none]) ?_ rfl ⟨rfl, rfl, trivial⟩
  refine am_iload_n X dX7_day_0 rfl rfl ?_
  refine am_iconst (v := (0 : Int32)) X dX7_day_1 (by decide) ?_
  refine am_bipush (v := (99 : Int32)) X dX7_day_2 (by decide) ?_
  obtain ⟨v4, σ4, hc, h⟩ := bd2_some h
  refine am_calls_i3 X dX7_day_4 cw_X7_84 (ct_X7_in hG N _ _ _ _ _ hc) (Nat.le_of_ble_eq_true rfl) rfl (Nat.le_of_ble_eq_true rfl) ?_
  refine am_if_ne (tgt := 13) X dX7_day_7 (by decide) (fun c => ?_) (fun c => ?_)
  · have h := if_f h c
    refine am_aload_n X dX7_day_13 rfl rfl ?_
    refine am_getf (v := .ref 61) X dX7_day_14 fl_X7_9 rfl rfl (by decide) ?_
    refine am_iconst (v := (5 : Int32)) X dX7_day_17 (by decide) ?_
    obtain ⟨g, h⟩ := gd_some h
    refine am_iald X dX7_day_18 rfl g ?_
    refine am_topi h (fun x2_19 h => ?_)
    refine am_istore_n (ls' := [some (.ref 60), some (.int x1), some (.int x2_19)]) X dX7_day_19 rfl (by decide)  rfl rfl ?_
    refine am_aload_n X dX7_day_20 rfl rfl ?_
    refine am_getf (v := .ref 61) X dX7_day_21 fl_X7_9 rfl rfl (by decide) ?_
    refine am_iconst (v := (5 : Int32)) X dX7_day_24 (by decide) ?_
    refine am_iload_n X dX7_day_25 rfl rfl ?_
    obtain ⟨g, h⟩ := gd_some h
    refine am_iast X dX7_day_26 rfl g ?_
    refine am_tops h (fun σ26 h => ?_)
    refine am_iload_n X dX7_day_27 rfl rfl ?_
    obtain rfl := Option.some.inj h
    exact am_iret X h0 dX7_day_28 rfl ⟨rfl, rfl⟩
  · have h := if_t h c
    refine am_bipush (v := (-2 : Int32)) X dX7_day_10 (by decide) ?_
    obtain rfl := Option.some.inj h
    exact am_iret X h0 dX7_day_12 rfl ⟨rfl, rfl⟩
