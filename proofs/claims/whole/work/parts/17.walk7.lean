set_option maxRecDepth 100000 in
set_option maxHeartbeats 4000000 in
theorem t_X7_lowest_6b {G : Cx} (hG : am_G G) (N : Nat) (k6 : Int64 → Int64 → Int32 → Int64 → Int64 → Sg → Option (Int64 × Sg)) (hk6 : ∀ (x0 : Int64) (x2 : Int64) (x4 : Int32) (x5 : Int64) (x7 : Int64) (σ : Sg) (r : Int64 × Sg), k6 x0 x2 x4 x5 x7 σ = some r → am_Wp G mX7_lowest 0 (am_ql r.1 r.2) 6 [some (.long x0), none, some (.long x2), none, some (.int x4), some (.long x5), none, some (.long x7), none, none, none] [] σ) (x0 : Int64) (x2 : Int64) (x4 : Int32) (x5 : Int64) (x7 : Int64) (σ : Sg) (r : Int64 × Sg) (h : b_X7_lowest_6b N k6 x0 x2 x4 x5 x7 σ = some r) : am_Wp G mX7_lowest 0 (am_ql r.1 r.2) 6 [some (.long x0), none, some (.long x2), none, some (.int x4), some (.long x5), none, some (.long x7), none, none, none] [] σ := by
  intro K h0 X
  unfold b_X7_lowest_6b at h
  refine am_lload X dX7_lowest_6 rfl ?_
  refine am_lconst (v := (0 : Int64)) X dX7_lowest_8 (by decide) ?_
  refine am_lcmp X dX7_lowest_9 ?_
  refine am_if_eq (tgt := 31) X dX7_lowest_10 (by decide) (fun c => ?_) (fun c => ?_)
  · have h := if_t h c
    refine am_iload X dX7_lowest_31 rfl ?_
    refine am_if_ne (tgt := 40) X dX7_lowest_33 (by decide) (fun c => ?_) (fun c => ?_)
    · have h := if_f h c
      refine am_lload_n X dX7_lowest_40 rfl rfl ?_
      refine am_lload X dX7_lowest_41 rfl ?_
      obtain ⟨g, h⟩ := gd_some h
      refine am_ldiv X dX7_lowest_43 (of_decide_eq_true g) ?_
      obtain rfl := Option.some.inj h
      exact am_lret X h0 dX7_lowest_44 rfl ⟨rfl, rfl⟩
    · have h := if_t h c
      refine am_lload_n X dX7_lowest_36 rfl rfl ?_
      refine am_goto (tgt := 41) X dX7_lowest_37 (by decide) ?_
      refine am_lload X dX7_lowest_41 rfl ?_
      obtain ⟨g, h⟩ := gd_some h
      refine am_ldiv X dX7_lowest_43 (of_decide_eq_true g) ?_
      obtain rfl := Option.some.inj h
      exact am_lret X h0 dX7_lowest_44 rfl ⟨rfl, rfl⟩
  · have h := if_f h c
    refine am_lload X dX7_lowest_13 rfl ?_
    refine am_lload X dX7_lowest_15 rfl ?_
    obtain ⟨g, h⟩ := gd_some h
    refine am_lrem X dX7_lowest_17 (of_decide_eq_true g) ?_
    refine am_topl h (fun x9_18 h => ?_)
    refine am_lstore (ls' := [some (.long x0), none, some (.long x2), none, some (.int x4), some (.long x5), none, some (.long x7), none, some (.long x9_18), none]) X dX7_lowest_18 (by decide)  rfl rfl ?_
    refine am_lload X dX7_lowest_20 rfl ?_
    refine am_lstore (ls' := [some (.long x0), none, some (.long x2), none, some (.int x4), some (.long x7), none, some (.long x7), none, some (.long x9_18), none]) X dX7_lowest_22 (by decide)  rfl rfl ?_
    refine am_lload X dX7_lowest_24 rfl ?_
    refine am_lstore (ls' := [some (.long x0), none, some (.long x2), none, some (.int x4), some (.long x7), none, some (.long x9_18), none, some (.long x9_18), none]) X dX7_lowest_26 (by decide)  rfl rfl ?_
    refine am_goto (tgt := 6) X dX7_lowest_28 (by decide) ?_
    exact am_jump (hk6 _ _ _ _ _ _ _ h K h0 X) rfl ⟨rfl, rfl, rfl, rfl, rfl, trivial⟩
set_option maxRecDepth 100000 in
set_option maxHeartbeats 4000000 in
theorem t_X7_lowest_6 {G : Cx} (hG : am_G G) (N : Nat) : ∀ (n : Nat) (x0 : Int64) (x2 : Int64) (x4 : Int32) (x5 : Int64) (x7 : Int64) (σ : Sg) (r : Int64 × Sg), b_X7_lowest_6 N n x0 x2 x4 x5 x7 σ = some r → am_Wp G mX7_lowest 0 (am_ql r.1 r.2) 6 [some (.long x0), none, some (.long x2), none, some (.int x4), some (.long x5), none, some (.long x7), none, none, none] [] σ := by
  intro n
  induction n with
  | zero => intro x0 x2 x4 x5 x7 σ r h; cases h
  | succ n ih => intro x0 x2 x4 x5 x7 σ r h; exact t_X7_lowest_6b hG N (b_X7_lowest_6 N n) ih x0 x2 x4 x5 x7 σ r h
set_option maxRecDepth 100000 in
set_option maxHeartbeats 4000000 in
theorem ct_X7_lowest {G : Cx} (hG : am_G G) (N : Nat) (x0 : Int64) (x2 : Int64) (x4 : Int32) (σ : Sg) (r : Int64 × Sg) (h : f_X7_lowest N x0 x2 x4 σ = some r) : am_Ct G 1 yX7_lowest mX7_lowest [.long x0, .long x2, .int x4] σ (am_ql r.1 r.2) := by
  refine am_enter hG rfl rfl (Nat.le_of_ble_eq_true rfl) ?_
  intro K h0 X
  unfold f_X7_lowest at h
  refine am_jump (pc' := 0) (ls' := [some (.long x0), none, some (.long x2), none, some (.int x4), none, none, none, none, none, none]) ?_ rfl ⟨rfl, rfl, rfl, trivial⟩
  refine am_lload_n X dX7_lowest_0 rfl rfl ?_
  refine am_lstore (ls' := [some (.long x0), none, some (.long x2), none, some (.int x4), some (.long x0), none, none, none, none, none]) X dX7_lowest_1 (by decide)  rfl rfl ?_
  refine am_lload_n X dX7_lowest_3 rfl rfl ?_
  refine am_lstore (ls' := [some (.long x0), none, some (.long x2), none, some (.int x4), some (.long x0), none, some (.long x2), none, none, none]) X dX7_lowest_4 (by decide)  rfl rfl ?_
  exact am_jump (t_X7_lowest_6 hG N N _ _ _ _ _ _ _ h K h0 X) rfl ⟨rfl, rfl, rfl, rfl, rfl, trivial⟩
set_option maxRecDepth 100000 in
set_option maxHeartbeats 4000000 in
theorem t_X7_goesOn_151b {G : Cx} (hG : am_G G) (N : Nat) (k151 : Int32 → Sg → Option (Sg)) (hk151 : ∀ (x2 : Int32) (σ : Sg) (r : Sg), k151 x2 σ = some r → am_Wp G mX7_goesOn 2 (am_qv r) 151 [some (.ref 60), none, some (.int x2), none, none, none] [] σ) (x2 : Int32) (σ : Sg) (r : Sg) (h : b_X7_goesOn_151b N k151 x2 σ = some r) : am_Wp G mX7_goesOn 2 (am_qv r) 151 [some (.ref 60), none, some (.int x2), none, none, none] [] σ := by
  intro K h0 X
  unfold b_X7_goesOn_151b at h
  refine am_iload_n X dX7_goesOn_151 rfl rfl ?_
  refine am_bipush (v := (7 : Int32)) X dX7_goesOn_152 (by decide) ?_
  refine am_icmp_ge (tgt := 175) X dX7_goesOn_154 (by decide) (fun c => ?_) (fun c => ?_)
  · have h := if_t h c
    obtain rfl := Option.some.inj h
    exact am_vret X h0 dX7_goesOn_175 rfl ⟨rfl, rfl⟩
  · have h := if_f h c
    refine am_aload_n X dX7_goesOn_157 rfl rfl ?_
    refine am_getf (v := .ref 80) X dX7_goesOn_158 fl_X7_70 rfl rfl (by decide) ?_
    refine am_iload_n X dX7_goesOn_161 rfl rfl ?_
    refine am_aload_n X dX7_goesOn_162 rfl rfl ?_
    refine am_getf (v := .ref 81) X dX7_goesOn_163 fl_X7_74 rfl rfl (by decide) ?_
    refine am_iload_n X dX7_goesOn_166 rfl rfl ?_
    obtain ⟨g, h⟩ := gd_some h
    refine am_lald X dX7_goesOn_167 rfl g ?_
    obtain ⟨g, h⟩ := gd_some h
    refine am_last X dX7_goesOn_168 rfl g ?_
    refine am_tops h (fun σ168 h => ?_)
    refine am_iinc (ls' := fun x2_169 => [some (.ref 60), none, some (.int x2_169), none, none, none]) X dX7_goesOn_169 rfl h (by decide) (by decide) rfl (fun _ => rfl) (fun x2_169 h => ?_)
    refine am_goto (tgt := 151) X dX7_goesOn_172 (by decide) ?_
    exact am_jump (hk151 _ _ _ h K h0 X) rfl ⟨rfl, rfl, trivial⟩
set_option maxRecDepth 100000 in
set_option maxHeartbeats 4000000 in
theorem t_X7_goesOn_151 {G : Cx} (hG : am_G G) (N : Nat) : ∀ (n : Nat) (x2 : Int32) (σ : Sg) (r : Sg), b_X7_goesOn_151 N n x2 σ = some r → am_Wp G mX7_goesOn 2 (am_qv r) 151 [some (.ref 60), none, some (.int x2), none, none, none] [] σ := by
  intro n
  induction n with
  | zero => intro x2 σ r h; cases h
  | succ n ih => intro x2 σ r h; exact t_X7_goesOn_151b hG N (b_X7_goesOn_151 N n) ih x2 σ r h
set_option maxRecDepth 100000 in
set_option maxHeartbeats 4000000 in
theorem t_X7_goesOn_137 {G : Cx} (hG : am_G G) (N : Nat) (k23 : Int32 → Int32 → Sg → Option (Sg)) (k80 : Int32 → Int32 → Int32 → Int32 → Int32 → Sg → Option (Sg)) (hk23 : ∀ (x1 : Int32) (x2 : Int32) (σ : Sg) (r : Sg), k23 x1 x2 σ = some r → am_Wp G mX7_goesOn 2 (am_qv r) 23 [some (.ref 60), some (.int x1), some (.int x2), none, none, none] [] σ) (hk80 : ∀ (x1 : Int32) (x2 : Int32) (x3 : Int32) (x4 : Int32) (x5 : Int32) (σ : Sg) (r : Sg), k80 x1 x2 x3 x4 x5 σ = some r → am_Wp G mX7_goesOn 2 (am_qv r) 80 [some (.ref 60), some (.int x1), some (.int x2), some (.int x3), some (.int x4), some (.int x5)] [] σ) (x1 : Int32) (x2 : Int32) (x3 : Int32) (x4 : Int32) (x5 : Int32) (σ : Sg) (r : Sg) (h : b_X7_goesOn_137 N k23 k80 x1 x2 x3 x4 x5 σ = some r) : am_Wp G mX7_goesOn 2 (am_qv r) 137 [some (.ref 60), some (.int x1), some (.int x2), some (.int x3), some (.int x4), some (.int x5)] [] σ := by
  intro K h0 X
  unfold b_X7_goesOn_137 at h
  refine am_iinc (ls' := fun x5_137 => [some (.ref 60), some (.int x1), some (.int x2), some (.int x3), some (.int x4), some (.int x5_137)]) X dX7_goesOn_137 rfl h (by decide) (by decide) rfl (fun _ => rfl) (fun x5_137 h => ?_)
  refine am_goto (tgt := 80) X dX7_goesOn_140 (by decide) ?_
  exact am_jump (hk80 _ _ _ _ _ _ _ h K h0 X) rfl ⟨rfl, rfl, rfl, rfl, rfl, rfl, trivial⟩
set_option maxRecDepth 100000 in
set_option maxHeartbeats 4000000 in
theorem t_X7_goesOn_135 {G : Cx} (hG : am_G G) (N : Nat) (k23 : Int32 → Int32 → Sg → Option (Sg)) (k80 : Int32 → Int32 → Int32 → Int32 → Int32 → Sg → Option (Sg)) (hk23 : ∀ (x1 : Int32) (x2 : Int32) (σ : Sg) (r : Sg), k23 x1 x2 σ = some r → am_Wp G mX7_goesOn 2 (am_qv r) 23 [some (.ref 60), some (.int x1), some (.int x2), none, none, none] [] σ) (hk80 : ∀ (x1 : Int32) (x2 : Int32) (x3 : Int32) (x4 : Int32) (x5 : Int32) (σ : Sg) (r : Sg), k80 x1 x2 x3 x4 x5 σ = some r → am_Wp G mX7_goesOn 2 (am_qv r) 80 [some (.ref 60), some (.int x1), some (.int x2), some (.int x3), some (.int x4), some (.int x5)] [] σ) (x1 : Int32) (x2 : Int32) (x3 : Int32) (x4 : Int32) (x5 : Int32) (s1 : Int32) (s2 : Int64) (s3 : Int64) (σ : Sg) (r : Sg) (h : b_X7_goesOn_135 N k23 k80 x1 x2 x3 x4 x5 s1 s2 s3 σ = some r) : am_Wp G mX7_goesOn 2 (am_qv r) 135 [some (.ref 60), some (.int x1), some (.int x2), some (.int x3), some (.int x4), some (.int x5)] [.long s3, .long s2, .int s1, .ref 81] σ := by
  intro K h0 X
  unfold b_X7_goesOn_135 at h
  refine am_ladd X dX7_goesOn_135 ?_
  obtain ⟨g, h⟩ := gd_some h
  refine am_last X dX7_goesOn_136 rfl g ?_
  refine am_tops h (fun σ136 h => ?_)
  exact am_jump (t_X7_goesOn_137 hG N k23 k80 hk23 hk80 _ _ _ _ _ _ _ h K h0 X) rfl ⟨rfl, rfl, rfl, rfl, rfl, rfl, trivial⟩
set_option maxRecDepth 100000 in
set_option maxHeartbeats 4000000 in
theorem t_X7_goesOn_80b {G : Cx} (hG : am_G G) (N : Nat) (k23 : Int32 → Int32 → Sg → Option (Sg)) (k80 : Int32 → Int32 → Int32 → Int32 → Int32 → Sg → Option (Sg)) (hk23 : ∀ (x1 : Int32) (x2 : Int32) (σ : Sg) (r : Sg), k23 x1 x2 σ = some r → am_Wp G mX7_goesOn 2 (am_qv r) 23 [some (.ref 60), some (.int x1), some (.int x2), none, none, none] [] σ) (hk80 : ∀ (x1 : Int32) (x2 : Int32) (x3 : Int32) (x4 : Int32) (x5 : Int32) (σ : Sg) (r : Sg), k80 x1 x2 x3 x4 x5 σ = some r → am_Wp G mX7_goesOn 2 (am_qv r) 80 [some (.ref 60), some (.int x1), some (.int x2), some (.int x3), some (.int x4), some (.int x5)] [] σ) (x1 : Int32) (x2 : Int32) (x3 : Int32) (x4 : Int32) (x5 : Int32) (σ : Sg) (r : Sg) (h : b_X7_goesOn_80b N k23 k80 x1 x2 x3 x4 x5 σ = some r) : am_Wp G mX7_goesOn 2 (am_qv r) 80 [some (.ref 60), some (.int x1), some (.int x2), some (.int x3), some (.int x4), some (.int x5)] [] σ := by
  intro K h0 X
  unfold b_X7_goesOn_80b at h
  refine am_iload X dX7_goesOn_80 rfl ?_
  refine am_aload_n X dX7_goesOn_82 rfl rfl ?_
  refine am_getf (v := .ref 61) X dX7_goesOn_83 fl_X7_9 rfl rfl (by decide) ?_
  refine am_iconst (v := (0 : Int32)) X dX7_goesOn_86 (by decide) ?_
  obtain ⟨g, h⟩ := gd_some h
  refine am_iald X dX7_goesOn_87 rfl g ?_
  refine am_icmp_ge (tgt := 143) X dX7_goesOn_88 (by decide) (fun c => ?_) (fun c => ?_)
  · have h := if_t h c
    refine am_iinc (ls' := fun x2_143 => [some (.ref 60), some (.int x1), some (.int x2_143), some (.int x3), some (.int x4), some (.int x5)]) X dX7_goesOn_143 rfl h (by decide) (by decide) rfl (fun _ => rfl) (fun x2_143 h => ?_)
    refine am_goto (tgt := 23) X dX7_goesOn_146 (by decide) ?_
    exact am_jump (hk23 _ _ _ _ h K h0 X) rfl ⟨rfl, rfl, rfl, trivial⟩
  · have h := if_f h c
    refine am_iload_n X dX7_goesOn_91 rfl rfl ?_
    refine am_iload X dX7_goesOn_92 rfl ?_
    refine am_ishr X dX7_goesOn_94 ?_
    refine am_iconst (v := (1 : Int32)) X dX7_goesOn_95 (by decide) ?_
    refine am_iand X dX7_goesOn_96 ?_
    refine am_iconst (v := (1 : Int32)) X dX7_goesOn_97 (by decide) ?_
    refine am_icmp_ne (tgt := 137) X dX7_goesOn_98 (by decide) (fun c => ?_) (fun c => ?_)
    · have h := if_f h c
      exact am_jump (t_X7_goesOn_137 hG N k23 k80 hk23 hk80 _ _ _ _ _ _ _ h K h0 X) rfl ⟨rfl, rfl, rfl, rfl, rfl, rfl, trivial⟩
    · have h := if_t h c
      refine am_aload_n X dX7_goesOn_101 rfl rfl ?_
      refine am_getf (v := .ref 81) X dX7_goesOn_102 fl_X7_74 rfl rfl (by decide) ?_
      refine am_iload X dX7_goesOn_105 rfl ?_
      refine am_dup2 X dX7_goesOn_107 rfl rfl ?_
      obtain ⟨g, h⟩ := gd_some h
      refine am_lald X dX7_goesOn_108 rfl g ?_
      refine am_iload_n X dX7_goesOn_109 rfl rfl ?_
      refine am_if_eq (tgt := 129) X dX7_goesOn_110 (by decide) (fun c => ?_) (fun c => ?_)
      · have h := if_t h c
        refine am_aload_n X dX7_goesOn_129 rfl rfl ?_
        refine am_getf (v := .ref 80) X dX7_goesOn_130 fl_X7_70 rfl rfl (by decide) ?_
        refine am_iload_n X dX7_goesOn_133 rfl rfl ?_
        obtain ⟨g, h⟩ := gd_some h
        refine am_lald X dX7_goesOn_134 rfl g ?_
        exact am_jump (t_X7_goesOn_135 hG N k23 k80 hk23 hk80 _ _ _ _ _ _ _ _ _ _ h K h0 X) rfl ⟨rfl, rfl, rfl, rfl, rfl, rfl, trivial⟩
      · have h := if_f h c
        refine am_bipush (v := (60 : Int32)) X dX7_goesOn_113 (by decide) ?_
        refine am_iload X dX7_goesOn_115 rfl ?_
        obtain ⟨g, h⟩ := gd_some h
        refine am_idiv X dX7_goesOn_117 (of_decide_eq_true g) ?_
        refine am_i2l X dX7_goesOn_118 ?_
        refine am_aload_n X dX7_goesOn_119 rfl rfl ?_
        refine am_getf (v := .ref 80) X dX7_goesOn_120 fl_X7_70 rfl rfl (by decide) ?_
        refine am_iload_n X dX7_goesOn_123 rfl rfl ?_
        obtain ⟨g, h⟩ := gd_some h
        refine am_lald X dX7_goesOn_124 rfl g ?_
        refine am_lmul X dX7_goesOn_125 ?_
        refine am_goto (tgt := 135) X dX7_goesOn_126 (by decide) ?_
        exact am_jump (t_X7_goesOn_135 hG N k23 k80 hk23 hk80 _ _ _ _ _ _ _ _ _ _ h K h0 X) rfl ⟨rfl, rfl, rfl, rfl, rfl, rfl, trivial⟩
set_option maxRecDepth 100000 in
set_option maxHeartbeats 4000000 in
theorem t_X7_goesOn_80 {G : Cx} (hG : am_G G) (N : Nat) (k23 : Int32 → Int32 → Sg → Option (Sg)) (hk23 : ∀ (x1 : Int32) (x2 : Int32) (σ : Sg) (r : Sg), k23 x1 x2 σ = some r → am_Wp G mX7_goesOn 2 (am_qv r) 23 [some (.ref 60), some (.int x1), some (.int x2), none, none, none] [] σ) : ∀ (n : Nat) (x1 : Int32) (x2 : Int32) (x3 : Int32) (x4 : Int32) (x5 : Int32) (σ : Sg) (r : Sg), b_X7_goesOn_80 N k23 n x1 x2 x3 x4 x5 σ = some r → am_Wp G mX7_goesOn 2 (am_qv r) 80 [some (.ref 60), some (.int x1), some (.int x2), some (.int x3), some (.int x4), some (.int x5)] [] σ := by
  intro n
  induction n with
  | zero => intro x1 x2 x3 x4 x5 σ r h; cases h
  | succ n ih => intro x1 x2 x3 x4 x5 σ r h; exact t_X7_goesOn_80b hG N k23 (b_X7_goesOn_80 N k23 n) hk23 ih x1 x2 x3 x4 x5 σ r h
set_option maxRecDepth 100000 in
set_option maxHeartbeats 4000000 in
theorem t_X7_goesOn_75 {G : Cx} (hG : am_G G) (N : Nat) (k23 : Int32 → Int32 → Sg → Option (Sg)) (hk23 : ∀ (x1 : Int32) (x2 : Int32) (σ : Sg) (r : Sg), k23 x1 x2 σ = some r → am_Wp G mX7_goesOn 2 (am_qv r) 23 [some (.ref 60), some (.int x1), some (.int x2), none, none, none] [] σ) (x1 : Int32) (x2 : Int32) (x3 : Int32) (x4 : Int32) (s1 : Int32) (s2 : Int64) (s3 : Int64) (σ : Sg) (r : Sg) (h : b_X7_goesOn_75 N k23 x1 x2 x3 x4 s1 s2 s3 σ = some r) : am_Wp G mX7_goesOn 2 (am_qv r) 75 [some (.ref 60), some (.int x1), some (.int x2), some (.int x3), some (.int x4), none] [.long s3, .long s2, .int s1, .ref 81] σ := by
  intro K h0 X
  unfold b_X7_goesOn_75 at h
  refine am_ladd X dX7_goesOn_75 ?_
  obtain ⟨g, h⟩ := gd_some h
  refine am_last X dX7_goesOn_76 rfl g ?_
  refine am_tops h (fun σ76 h => ?_)
  refine am_iconst (v := (0 : Int32)) X dX7_goesOn_77 (by decide) ?_
  refine am_istore (ls' := [some (.ref 60), some (.int x1), some (.int x2), some (.int x3), some (.int x4), some (.int (0 : Int32))]) X dX7_goesOn_78 (by decide)  rfl rfl ?_
  exact am_jump (t_X7_goesOn_80 hG N k23 hk23 N _ _ _ _ _ _ _ h K h0 X) rfl ⟨rfl, rfl, rfl, rfl, rfl, rfl, trivial⟩
set_option maxRecDepth 100000 in
set_option maxHeartbeats 4000000 in
theorem t_X7_goesOn_74 {G : Cx} (hG : am_G G) (N : Nat) (k23 : Int32 → Int32 → Sg → Option (Sg)) (hk23 : ∀ (x1 : Int32) (x2 : Int32) (σ : Sg) (r : Sg), k23 x1 x2 σ = some r → am_Wp G mX7_goesOn 2 (am_qv r) 23 [some (.ref 60), some (.int x1), some (.int x2), none, none, none] [] σ) (x1 : Int32) (x2 : Int32) (x3 : Int32) (x4 : Int32) (s1 : Int32) (s2 : Int64) (σ : Sg) (r : Sg) (h : b_X7_goesOn_74 N k23 x1 x2 x3 x4 s1 s2 σ = some r) : am_Wp G mX7_goesOn 2 (am_qv r) 74 [some (.ref 60), some (.int x1), some (.int x2), some (.int x3), some (.int x4), none] [.long s2, .int s1, .ref 81] σ := by
  intro K h0 X
  unfold b_X7_goesOn_74 at h
  refine am_lconst (v := (0 : Int64)) X dX7_goesOn_74 (by decide) ?_
  exact am_jump (t_X7_goesOn_75 hG N k23 hk23 _ _ _ _ _ _ _ _ _ h K h0 X) rfl ⟨rfl, rfl, rfl, rfl, rfl, trivial⟩
set_option maxRecDepth 100000 in
set_option maxHeartbeats 4000000 in
theorem t_X7_goesOn_23b {G : Cx} (hG : am_G G) (N : Nat) (k23 : Int32 → Int32 → Sg → Option (Sg)) (hk23 : ∀ (x1 : Int32) (x2 : Int32) (σ : Sg) (r : Sg), k23 x1 x2 σ = some r → am_Wp G mX7_goesOn 2 (am_qv r) 23 [some (.ref 60), some (.int x1), some (.int x2), none, none, none] [] σ) (x1 : Int32) (x2 : Int32) (σ : Sg) (r : Sg) (h : b_X7_goesOn_23b N k23 x1 x2 σ = some r) : am_Wp G mX7_goesOn 2 (am_qv r) 23 [some (.ref 60), some (.int x1), some (.int x2), none, none, none] [] σ := by
  intro K h0 X
  unfold b_X7_goesOn_23b at h
  refine am_iload_n X dX7_goesOn_23 rfl rfl ?_
  refine am_aload_n X dX7_goesOn_24 rfl rfl ?_
  refine am_getf (v := .ref 61) X dX7_goesOn_25 fl_X7_9 rfl rfl (by decide) ?_
  refine am_iconst (v := (0 : Int32)) X dX7_goesOn_28 (by decide) ?_
  obtain ⟨g, h⟩ := gd_some h
  refine am_iald X dX7_goesOn_29 rfl g ?_
  refine am_icmp_ge (tgt := 149) X dX7_goesOn_30 (by decide) (fun c => ?_) (fun c => ?_)
  · have h := if_t h c
    refine am_iconst (v := (0 : Int32)) X dX7_goesOn_149 (by decide) ?_
    refine am_istore_n (ls' := [some (.ref 60), some (.int x1), some (.int (0 : Int32)), none, none, none]) X dX7_goesOn_150 rfl (by decide)  rfl rfl ?_
    exact am_jump (t_X7_goesOn_151 hG N N _ _ _ h K h0 X) rfl ⟨rfl, rfl, trivial⟩
  · have h := if_f h c
    refine am_aload_n X dX7_goesOn_33 rfl rfl ?_
    refine am_iload_n X dX7_goesOn_34 rfl rfl ?_
    obtain ⟨v35, σ35, hc, h⟩ := bd2_some h
    refine am_callv_i1 X dX7_goesOn_35 cw_X7_207 (ct_X7_openFrom hG N _ _ _ hc) (Nat.le_of_ble_eq_true rfl) rfl rfl rfl rfl (Nat.le_of_ble_eq_true rfl) ?_
    refine am_istore_n (ls' := [some (.ref 60), some (.int x1), some (.int x2), some (.int v35), none, none]) X dX7_goesOn_38 rfl (by decide)  rfl rfl ?_
    refine am_iload_n X dX7_goesOn_39 rfl rfl ?_
    obtain ⟨v40, σ40, hc, h⟩ := bd2_some h
    refine am_calls_i1 X dX7_goesOn_40 cw_X7_179 (ct_X7_count1 hG N _ _ _ hc) (Nat.le_of_ble_eq_true rfl) rfl (Nat.le_of_ble_eq_true rfl) ?_
    refine am_istore (ls' := [some (.ref 60), some (.int x1), some (.int x2), some (.int v35), some (.int v40), none]) X dX7_goesOn_43 (by decide)  rfl rfl ?_
    refine am_aload_n X dX7_goesOn_45 rfl rfl ?_
    refine am_getf (v := .ref 81) X dX7_goesOn_46 fl_X7_74 rfl rfl (by decide) ?_
    refine am_iload_n X dX7_goesOn_49 rfl rfl ?_
    refine am_dup2 X dX7_goesOn_50 rfl rfl ?_
    obtain ⟨g, h⟩ := gd_some h
    refine am_lald X dX7_goesOn_51 rfl g ?_
    refine am_iload_n X dX7_goesOn_52 rfl rfl ?_
    refine am_if_eq (tgt := 74) X dX7_goesOn_53 (by decide) (fun c => ?_) (fun c => ?_)
    · have h := if_t h c
      exact am_jump (t_X7_goesOn_74 hG N k23 hk23 _ _ _ _ _ _ _ _ h K h0 X) rfl ⟨rfl, rfl, rfl, rfl, rfl, trivial⟩
    · have h := if_f h c
      refine am_iload X dX7_goesOn_56 rfl ?_
      refine am_if_ne (tgt := 74) X dX7_goesOn_58 (by decide) (fun c => ?_) (fun c => ?_)
      · have h := if_f h c
        exact am_jump (t_X7_goesOn_74 hG N k23 hk23 _ _ _ _ _ _ _ _ h K h0 X) rfl ⟨rfl, rfl, rfl, rfl, rfl, trivial⟩
      · have h := if_t h c
        refine am_ldc2 (v := (60 : Int64)) X dX7_goesOn_61 (wm_r34 _ (List.mem_of_getElem? (i := 2) rfl)) ?_
        refine am_aload_n X dX7_goesOn_64 rfl rfl ?_
        refine am_getf (v := .ref 80) X dX7_goesOn_65 fl_X7_70 rfl rfl (by decide) ?_
        refine am_iload_n X dX7_goesOn_68 rfl rfl ?_
        obtain ⟨g, h⟩ := gd_some h
        refine am_lald X dX7_goesOn_69 rfl g ?_
        refine am_lmul X dX7_goesOn_70 ?_
        refine am_goto (tgt := 75) X dX7_goesOn_71 (by decide) ?_
        exact am_jump (t_X7_goesOn_75 hG N k23 hk23 _ _ _ _ _ _ _ _ _ h K h0 X) rfl ⟨rfl, rfl, rfl, rfl, rfl, trivial⟩
set_option maxRecDepth 100000 in
set_option maxHeartbeats 4000000 in
theorem t_X7_goesOn_23 {G : Cx} (hG : am_G G) (N : Nat) : ∀ (n : Nat) (x1 : Int32) (x2 : Int32) (σ : Sg) (r : Sg), b_X7_goesOn_23 N n x1 x2 σ = some r → am_Wp G mX7_goesOn 2 (am_qv r) 23 [some (.ref 60), some (.int x1), some (.int x2), none, none, none] [] σ := by
  intro n
  induction n with
  | zero => intro x1 x2 σ r h; cases h
  | succ n ih => intro x1 x2 σ r h; exact t_X7_goesOn_23b hG N (b_X7_goesOn_23 N n) ih x1 x2 σ r h
set_option maxRecDepth 100000 in
set_option maxHeartbeats 4000000 in
theorem t_X7_goesOn_2b {G : Cx} (hG : am_G G) (N : Nat) (k2 : Int32 → Int32 → Sg → Option (Sg)) (hk2 : ∀ (x1 : Int32) (x2 : Int32) (σ : Sg) (r : Sg), k2 x1 x2 σ = some r → am_Wp G mX7_goesOn 2 (am_qv r) 2 [some (.ref 60), some (.int x1), some (.int x2), none, none, none] [] σ) (x1 : Int32) (x2 : Int32) (σ : Sg) (r : Sg) (h : b_X7_goesOn_2b N k2 x1 x2 σ = some r) : am_Wp G mX7_goesOn 2 (am_qv r) 2 [some (.ref 60), some (.int x1), some (.int x2), none, none, none] [] σ := by
  intro K h0 X
  unfold b_X7_goesOn_2b at h
  refine am_iload_n X dX7_goesOn_2 rfl rfl ?_
  refine am_bipush (v := (7 : Int32)) X dX7_goesOn_3 (by decide) ?_
  refine am_icmp_ge (tgt := 21) X dX7_goesOn_5 (by decide) (fun c => ?_) (fun c => ?_)
  · have h := if_t h c
    refine am_iconst (v := (0 : Int32)) X dX7_goesOn_21 (by decide) ?_
    refine am_istore_n (ls' := [some (.ref 60), some (.int x1), some (.int (0 : Int32)), none, none, none]) X dX7_goesOn_22 rfl (by decide)  rfl rfl ?_
    exact am_jump (t_X7_goesOn_23 hG N N _ _ _ _ h K h0 X) rfl ⟨rfl, rfl, rfl, trivial⟩
  · have h := if_f h c
    refine am_aload_n X dX7_goesOn_8 rfl rfl ?_
    refine am_getf (v := .ref 81) X dX7_goesOn_9 fl_X7_74 rfl rfl (by decide) ?_
    refine am_iload_n X dX7_goesOn_12 rfl rfl ?_
    refine am_lconst (v := (0 : Int64)) X dX7_goesOn_13 (by decide) ?_
    obtain ⟨g, h⟩ := gd_some h
    refine am_last X dX7_goesOn_14 rfl g ?_
    refine am_tops h (fun σ14 h => ?_)
    refine am_iinc (ls' := fun x2_15 => [some (.ref 60), some (.int x1), some (.int x2_15), none, none, none]) X dX7_goesOn_15 rfl h (by decide) (by decide) rfl (fun _ => rfl) (fun x2_15 h => ?_)
    refine am_goto (tgt := 2) X dX7_goesOn_18 (by decide) ?_
    exact am_jump (hk2 _ _ _ _ h K h0 X) rfl ⟨rfl, rfl, rfl, trivial⟩
set_option maxRecDepth 100000 in
set_option maxHeartbeats 4000000 in
theorem t_X7_goesOn_2 {G : Cx} (hG : am_G G) (N : Nat) : ∀ (n : Nat) (x1 : Int32) (x2 : Int32) (σ : Sg) (r : Sg), b_X7_goesOn_2 N n x1 x2 σ = some r → am_Wp G mX7_goesOn 2 (am_qv r) 2 [some (.ref 60), some (.int x1), some (.int x2), none, none, none] [] σ := by
  intro n
  induction n with
  | zero => intro x1 x2 σ r h; cases h
  | succ n ih => intro x1 x2 σ r h; exact t_X7_goesOn_2b hG N (b_X7_goesOn_2 N n) ih x1 x2 σ r h
set_option maxRecDepth 100000 in
set_option maxHeartbeats 4000000 in
theorem ct_X7_goesOn {G : Cx} (hG : am_G G) (N : Nat) (x1 : Int32) (σ : Sg) (r : Sg) (h : f_X7_goesOn N x1 σ = some r) : am_Ct G 3 yX7_goesOn mX7_goesOn [.ref 60, .int x1] σ (am_qv r) := by
  refine am_enter hG rfl rfl (Nat.le_of_ble_eq_true rfl) ?_
  intro K h0 X
  unfold f_X7_goesOn at h
  refine am_jump (pc' := 0) (ls' := [some (.ref 60), some (.int x1), none, none, none, none]) ?_ rfl ⟨rfl, rfl, trivial⟩
  refine am_iconst (v := (0 : Int32)) X dX7_goesOn_0 (by decide) ?_
  refine am_istore_n (ls' := [some (.ref 60), some (.int x1), some (.int (0 : Int32)), none, none, none]) X dX7_goesOn_1 rfl (by decide)  rfl rfl ?_
  exact am_jump (t_X7_goesOn_2 hG N N _ _ _ _ h K h0 X) rfl ⟨rfl, rfl, rfl, trivial⟩
set_option maxRecDepth 100000 in
set_option maxHeartbeats 4000000 in
theorem t_X7_stray_51b {G : Cx} (hG : am_G G) (N : Nat) (k51 : Int32 → Int32 → Int32 → Int64 → Int32 → Sg → Option (Int64 × Sg)) (hk51 : ∀ (x2 : Int32) (x3 : Int32) (x4 : Int32) (x5 : Int64) (x7 : Int32) (σ : Sg) (r : Int64 × Sg), k51 x2 x3 x4 x5 x7 σ = some r → am_Wp G mX7_stray 3 (am_ql r.1 r.2) 51 [some (.ref 60), none, some (.int x2), some (.int x3), some (.int x4), some (.long x5), none, some (.int x7)] [] σ) (x2 : Int32) (x3 : Int32) (x4 : Int32) (x5 : Int64) (x7 : Int32) (σ : Sg) (r : Int64 × Sg) (h : b_X7_stray_51b N k51 x2 x3 x4 x5 x7 σ = some r) : am_Wp G mX7_stray 3 (am_ql r.1 r.2) 51 [some (.ref 60), none, some (.int x2), some (.int x3), some (.int x4), some (.long x5), none, some (.int x7)] [] σ := by
  intro K h0 X
  unfold b_X7_stray_51b at h
  refine am_iload X dX7_stray_51 rfl ?_
  refine am_iload_n X dX7_stray_53 rfl rfl ?_
  refine am_icmp_ge (tgt := 76) X dX7_stray_54 (by decide) (fun c => ?_) (fun c => ?_)
  · have h := if_t h c
    refine am_aload_n X dX7_stray_76 rfl rfl ?_
    refine am_getf (v := .ref 80) X dX7_stray_77 fl_X7_70 rfl rfl (by decide) ?_
    refine am_iload_n X dX7_stray_80 rfl rfl ?_
    obtain ⟨g, h⟩ := gd_some h
    refine am_lald X dX7_stray_81 rfl g ?_
    refine am_lload X dX7_stray_82 rfl ?_
    refine am_iload X dX7_stray_84 rfl ?_
    obtain ⟨v86, σ86, hc, h⟩ := bd2_some h
    refine am_calls_l3 X dX7_stray_86 cw_X7_274 (ct_X7_lowest hG N _ _ _ _ _ hc) (Nat.le_of_ble_eq_true rfl) rfl (Nat.le_of_ble_eq_true rfl) ?_
    obtain rfl := Option.some.inj h
    exact am_lret X h0 dX7_stray_89 rfl ⟨rfl, rfl⟩
  · have h := if_f h c
    refine am_aload_n X dX7_stray_57 rfl rfl ?_
    refine am_iconst (v := (1 : Int32)) X dX7_stray_58 (by decide) ?_
    obtain ⟨σ59, hc, h⟩ := bd_some h
    refine am_callv_v1 X dX7_stray_59 cw_X7_271 (ct_X7_goesOn hG N _ _ _ hc) (Nat.le_of_ble_eq_true rfl) rfl rfl rfl rfl (Nat.le_of_ble_eq_true rfl) ?_
    refine am_lload X dX7_stray_62 rfl ?_
    refine am_ldc2 (v := (60 : Int64)) X dX7_stray_64 (wm_r34 _ (List.mem_of_getElem? (i := 2) rfl)) ?_
    refine am_lmul X dX7_stray_67 ?_
    refine am_topl h (fun x5_68 h => ?_)
    refine am_lstore (ls' := [some (.ref 60), none, some (.int x2), some (.int x3), some (.int x4), some (.long x5_68), none, some (.int x7)]) X dX7_stray_68 (by decide)  rfl rfl ?_
    refine am_iinc (ls' := fun x7_70 => [some (.ref 60), none, some (.int x2), some (.int x3), some (.int x4), some (.long x5_68), none, some (.int x7_70)]) X dX7_stray_70 rfl h (by decide) (by decide) rfl (fun _ => rfl) (fun x7_70 h => ?_)
    refine am_goto (tgt := 51) X dX7_stray_73 (by decide) ?_
    exact am_jump (hk51 _ _ _ _ _ _ _ h K h0 X) rfl ⟨rfl, rfl, rfl, rfl, rfl, rfl, trivial⟩
set_option maxRecDepth 100000 in
set_option maxHeartbeats 4000000 in
theorem t_X7_stray_51 {G : Cx} (hG : am_G G) (N : Nat) : ∀ (n : Nat) (x2 : Int32) (x3 : Int32) (x4 : Int32) (x5 : Int64) (x7 : Int32) (σ : Sg) (r : Int64 × Sg), b_X7_stray_51 N n x2 x3 x4 x5 x7 σ = some r → am_Wp G mX7_stray 3 (am_ql r.1 r.2) 51 [some (.ref 60), none, some (.int x2), some (.int x3), some (.int x4), some (.long x5), none, some (.int x7)] [] σ := by
  intro n
  induction n with
  | zero => intro x2 x3 x4 x5 x7 σ r h; cases h
  | succ n ih => intro x2 x3 x4 x5 x7 σ r h; exact t_X7_stray_51b hG N (b_X7_stray_51 N n) ih x2 x3 x4 x5 x7 σ r h
set_option maxRecDepth 100000 in
set_option maxHeartbeats 4000000 in
theorem ct_X7_stray {G : Cx} (hG : am_G G) (N : Nat) (x1 : Int32) (x2 : Int32) (x3 : Int32) (x4 : Int32) (σ : Sg) (r : Int64 × Sg) (h : f_X7_stray N x1 x2 x3 x4 σ = some r) : am_Ct G 4 yX7_stray mX7_stray [.ref 60, .int x1, .int x2, .int x3, .int x4] σ (am_ql r.1 r.2) := by
  refine am_enter hG rfl rfl (Nat.le_of_ble_eq_true rfl) ?_
  intro K h0 X
  unfold f_X7_stray at h
  refine am_jump (pc' := 0) (ls' := [some (.ref 60), some (.int x1), some (.int x2), some (.int x3), some (.int x4), none, none, none]) ?_ rfl ⟨rfl, rfl, rfl, rfl, rfl, trivial⟩
  refine am_aload_n X dX7_stray_0 rfl rfl ?_
  refine am_iload_n X dX7_stray_1 rfl rfl ?_
  obtain ⟨v2, σ2, hc, h⟩ := bd2_some h
  refine am_callv_i1 X dX7_stray_2 cw_X7_161 (ct_X7_isStreet hG N _ _ _ hc) (Nat.le_of_ble_eq_true rfl) rfl rfl rfl rfl (Nat.le_of_ble_eq_true rfl) ?_
  refine am_if_eq (tgt := 36) X dX7_stray_5 (by decide) (fun c => ?_) (fun c => ?_)
  · have h := if_t h c
    refine am_ldc2 (v := (-9223372036854775808 : Int64)) X dX7_stray_36 (wm_r33 _ (List.mem_of_getElem? (i := 17) rfl)) ?_
    obtain rfl := Option.some.inj h
    exact am_lret X h0 dX7_stray_39 rfl ⟨rfl, rfl⟩
  · have h := if_f h c
    refine am_aload_n X dX7_stray_8 rfl rfl ?_
    refine am_iload_n X dX7_stray_9 rfl rfl ?_
    obtain ⟨v10, σ10, hc, h⟩ := bd2_some h
    refine am_callv_i1 X dX7_stray_10 cw_X7_161 (ct_X7_isStreet hG N _ _ _ hc) (Nat.le_of_ble_eq_true rfl) rfl rfl rfl rfl (Nat.le_of_ble_eq_true rfl) ?_
    refine am_if_eq (tgt := 36) X dX7_stray_13 (by decide) (fun c => ?_) (fun c => ?_)
    · have h := if_t h c
      refine am_ldc2 (v := (-9223372036854775808 : Int64)) X dX7_stray_36 (wm_r33 _ (List.mem_of_getElem? (i := 17) rfl)) ?_
      obtain rfl := Option.some.inj h
      exact am_lret X h0 dX7_stray_39 rfl ⟨rfl, rfl⟩
    · have h := if_f h c
      refine am_iload_n X dX7_stray_16 rfl rfl ?_
      refine am_iconst (v := (0 : Int32)) X dX7_stray_17 (by decide) ?_
      refine am_bipush (v := (6 : Int32)) X dX7_stray_18 (by decide) ?_
      obtain ⟨v20, σ20, hc, h⟩ := bd2_some h
      refine am_calls_i3 X dX7_stray_20 cw_X7_84 (ct_X7_in hG N _ _ _ _ _ hc) (Nat.le_of_ble_eq_true rfl) rfl (Nat.le_of_ble_eq_true rfl) ?_
      refine am_if_eq (tgt := 36) X dX7_stray_23 (by decide) (fun c => ?_) (fun c => ?_)
      · have h := if_t h c
        refine am_ldc2 (v := (-9223372036854775808 : Int64)) X dX7_stray_36 (wm_r33 _ (List.mem_of_getElem? (i := 17) rfl)) ?_
        obtain rfl := Option.some.inj h
        exact am_lret X h0 dX7_stray_39 rfl ⟨rfl, rfl⟩
      · have h := if_f h c
        refine am_iload X dX7_stray_26 rfl ?_
        refine am_iconst (v := (0 : Int32)) X dX7_stray_28 (by decide) ?_
        refine am_iconst (v := (1 : Int32)) X dX7_stray_29 (by decide) ?_
        obtain ⟨v30, σ30, hc, h⟩ := bd2_some h
        refine am_calls_i3 X dX7_stray_30 cw_X7_84 (ct_X7_in hG N _ _ _ _ _ hc) (Nat.le_of_ble_eq_true rfl) rfl (Nat.le_of_ble_eq_true rfl) ?_
        refine am_if_ne (tgt := 40) X dX7_stray_33 (by decide) (fun c => ?_) (fun c => ?_)
        · have h := if_f h c
          refine am_aload_n X dX7_stray_40 rfl rfl ?_
          refine am_iload_n X dX7_stray_41 rfl rfl ?_
          obtain ⟨σ42, hc, h⟩ := bd_some h
          refine am_callv_v1 X dX7_stray_42 cw_X7_268 (ct_X7_begins hG N _ _ _ hc) (Nat.le_of_ble_eq_true rfl) rfl rfl rfl rfl (Nat.le_of_ble_eq_true rfl) ?_
          refine am_lconst (v := (1 : Int64)) X dX7_stray_45 (by decide) ?_
          refine am_lstore (ls' := [some (.ref 60), some (.int x1), some (.int x2), some (.int x3), some (.int x4), some (.long (1 : Int64)), none, none]) X dX7_stray_46 (by decide)  rfl rfl ?_
          refine am_iconst (v := (0 : Int32)) X dX7_stray_48 (by decide) ?_
          refine am_istore (ls' := [some (.ref 60), some (.int x1), some (.int x2), some (.int x3), some (.int x4), some (.long (1 : Int64)), none, some (.int (0 : Int32))]) X dX7_stray_49 (by decide)  rfl rfl ?_
          exact am_jump (t_X7_stray_51 hG N N _ _ _ _ _ _ _ h K h0 X) rfl ⟨rfl, rfl, rfl, rfl, rfl, rfl, trivial⟩
        · have h := if_t h c
          refine am_ldc2 (v := (-9223372036854775808 : Int64)) X dX7_stray_36 (wm_r33 _ (List.mem_of_getElem? (i := 17) rfl)) ?_
          obtain rfl := Option.some.inj h
          exact am_lret X h0 dX7_stray_39 rfl ⟨rfl, rfl⟩
set_option maxRecDepth 100000 in
set_option maxHeartbeats 4000000 in
theorem t_X7_street_89b {G : Cx} (hG : am_G G) (N : Nat) (k89 : Int32 → Int32 → Sg → Option (Int32 × Sg)) (hk89 : ∀ (x3 : Int32) (x4 : Int32) (σ : Sg) (r : Int32 × Sg), k89 x3 x4 σ = some r → am_Wp G mX7_street 1 (am_qi r.1 r.2) 89 [some (.ref 60), none, none, some (.int x3), some (.int x4)] [] σ) (x3 : Int32) (x4 : Int32) (σ : Sg) (r : Int32 × Sg) (h : b_X7_street_89b N k89 x3 x4 σ = some r) : am_Wp G mX7_street 1 (am_qi r.1 r.2) 89 [some (.ref 60), none, none, some (.int x3), some (.int x4)] [] σ := by
  intro K h0 X
  unfold b_X7_street_89b at h
  refine am_iload X dX7_street_89 rfl ?_
  refine am_bipush (v := (7 : Int32)) X dX7_street_91 (by decide) ?_
  refine am_icmp_ge (tgt := 134) X dX7_street_93 (by decide) (fun c => ?_) (fun c => ?_)
  · have h := if_t h c
    refine am_aload_n X dX7_street_134 rfl rfl ?_
    refine am_getf (v := .ref 61) X dX7_street_135 fl_X7_9 rfl rfl (by decide) ?_
    refine am_iconst (v := (0 : Int32)) X dX7_street_138 (by decide) ?_
    refine am_dup2 X dX7_street_139 rfl rfl ?_
    obtain ⟨g, h⟩ := gd_some h
    refine am_iald X dX7_street_140 rfl g ?_
    refine am_iconst (v := (1 : Int32)) X dX7_street_141 (by decide) ?_
    refine am_iadd X dX7_street_142 ?_
    obtain ⟨g, h⟩ := gd_some h
    refine am_iast X dX7_street_143 rfl g ?_
    refine am_tops h (fun σ143 h => ?_)
    refine am_iload_n X dX7_street_144 rfl rfl ?_
    obtain rfl := Option.some.inj h
    exact am_iret X h0 dX7_street_145 rfl ⟨rfl, rfl⟩
  · have h := if_f h c
    refine am_aload_n X dX7_street_96 rfl rfl ?_
    refine am_getf (v := .ref 61) X dX7_street_97 fl_X7_9 rfl rfl (by decide) ?_
    refine am_bipush (v := (38 : Int32)) X dX7_street_100 (by decide) ?_
    refine am_bipush (v := (7 : Int32)) X dX7_street_102 (by decide) ?_
    refine am_iload_n X dX7_street_104 rfl rfl ?_
    refine am_imul X dX7_street_105 ?_
    refine am_iadd X dX7_street_106 ?_
    refine am_iload X dX7_street_107 rfl ?_
    refine am_iadd X dX7_street_109 ?_
    refine am_iconst (v := (0 : Int32)) X dX7_street_110 (by decide) ?_
    obtain ⟨g, h⟩ := gd_some h
    refine am_iast X dX7_street_111 rfl g ?_
    refine am_tops h (fun σ111 h => ?_)
    refine am_aload_n X dX7_street_112 rfl rfl ?_
    refine am_getf (v := .ref 61) X dX7_street_113 fl_X7_9 rfl rfl (by decide) ?_
    refine am_bipush (v := (38 : Int32)) X dX7_street_116 (by decide) ?_
    refine am_bipush (v := (7 : Int32)) X dX7_street_118 (by decide) ?_
    refine am_iload X dX7_street_120 rfl ?_
    refine am_imul X dX7_street_122 ?_
    refine am_iadd X dX7_street_123 ?_
    refine am_iload_n X dX7_street_124 rfl rfl ?_
    refine am_iadd X dX7_street_125 ?_
    refine am_iconst (v := (0 : Int32)) X dX7_street_126 (by decide) ?_
    obtain ⟨g, h⟩ := gd_some h
    refine am_iast X dX7_street_127 rfl g ?_
    refine am_tops h (fun σ127 h => ?_)
    refine am_iinc (ls' := fun x4_128 => [some (.ref 60), none, none, some (.int x3), some (.int x4_128)]) X dX7_street_128 rfl h (by decide) (by decide) rfl (fun _ => rfl) (fun x4_128 h => ?_)
    refine am_goto (tgt := 89) X dX7_street_131 (by decide) ?_
    exact am_jump (hk89 _ _ _ _ h K h0 X) rfl ⟨rfl, rfl, rfl, trivial⟩
set_option maxRecDepth 100000 in
set_option maxHeartbeats 4000000 in
theorem t_X7_street_89 {G : Cx} (hG : am_G G) (N : Nat) : ∀ (n : Nat) (x3 : Int32) (x4 : Int32) (σ : Sg) (r : Int32 × Sg), b_X7_street_89 N n x3 x4 σ = some r → am_Wp G mX7_street 1 (am_qi r.1 r.2) 89 [some (.ref 60), none, none, some (.int x3), some (.int x4)] [] σ := by
  intro n
  induction n with
  | zero => intro x3 x4 σ r h; cases h
  | succ n ih => intro x3 x4 σ r h; exact t_X7_street_89b hG N (b_X7_street_89 N n) ih x3 x4 σ r h
set_option maxRecDepth 100000 in
set_option maxHeartbeats 4000000 in
theorem ct_X7_street {G : Cx} (hG : am_G G) (N : Nat) (x1 : Int32) (x2 : Int32) (σ : Sg) (r : Int32 × Sg) (h : f_X7_street N x1 x2 σ = some r) : am_Ct G 2 yX7_street mX7_street [.ref 60, .int x1, .int x2] σ (am_qi r.1 r.2) := by
  refine am_enter hG rfl rfl (Nat.le_of_ble_eq_true rfl) ?_
  intro K h0 X
  unfold f_X7_street at h
  refine am_jump (pc' := 0) (ls' := [some (.ref 60), some (.int x1), some (.int x2), none, none]) ?_ rfl ⟨rfl, rfl, rfl, trivial⟩
  refine am_iload_n X dX7_street_0 rfl rfl ?_
  refine am_iconst (v := (0 : Int32)) X dX7_street_1 (by decide) ?_
  refine am_bipush (v := (6 : Int32)) X dX7_street_2 (by decide) ?_
  obtain ⟨v4, σ4, hc, h⟩ := bd2_some h
  refine am_calls_i3 X dX7_street_4 cw_X7_84 (ct_X7_in hG N _ _ _ _ _ hc) (Nat.le_of_ble_eq_true rfl) rfl (Nat.le_of_ble_eq_true rfl) ?_
  refine am_if_ne (tgt := 12) X dX7_street_7 (by decide) (fun c => ?_) (fun c => ?_)
  · have h := if_f h c
    refine am_iload_n X dX7_street_12 rfl rfl ?_
    refine am_iconst (v := (0 : Int32)) X dX7_street_13 (by decide) ?_
    refine am_bipush (v := (9 : Int32)) X dX7_street_14 (by decide) ?_
    obtain ⟨v16, σ16, hc, h⟩ := bd2_some h
    refine am_calls_i3 X dX7_street_16 cw_X7_84 (ct_X7_in hG N _ _ _ _ _ hc) (Nat.le_of_ble_eq_true rfl) rfl (Nat.le_of_ble_eq_true rfl) ?_
    refine am_if_ne (tgt := 25) X dX7_street_19 (by decide) (fun c => ?_) (fun c => ?_)
    · have h := if_f h c
      refine am_aload_n X dX7_street_25 rfl rfl ?_
      refine am_getf (v := .ref 61) X dX7_street_26 fl_X7_9 rfl rfl (by decide) ?_
      refine am_iconst (v := (0 : Int32)) X dX7_street_29 (by decide) ?_
      obtain ⟨g, h⟩ := gd_some h
      refine am_iald X dX7_street_30 rfl g ?_
      refine am_bipush (v := (7 : Int32)) X dX7_street_31 (by decide) ?_
      refine am_icmp_ne (tgt := 39) X dX7_street_33 (by decide) (fun c => ?_) (fun c => ?_)
      · have h := if_f h c
        refine am_aload_n X dX7_street_39 rfl rfl ?_
        refine am_getf (v := .ref 61) X dX7_street_40 fl_X7_9 rfl rfl (by decide) ?_
        refine am_iconst (v := (0 : Int32)) X dX7_street_43 (by decide) ?_
        obtain ⟨g, h⟩ := gd_some h
        refine am_iald X dX7_street_44 rfl g ?_
        refine am_topi h (fun x3_45 h => ?_)
        refine am_istore_n (ls' := [some (.ref 60), some (.int x1), some (.int x2), some (.int x3_45), none]) X dX7_street_45 rfl (by decide)  rfl rfl ?_
        refine am_aload_n X dX7_street_46 rfl rfl ?_
        refine am_getf (v := .ref 61) X dX7_street_47 fl_X7_9 rfl rfl (by decide) ?_
        refine am_bipush (v := (10 : Int32)) X dX7_street_50 (by decide) ?_
        refine am_iload_n X dX7_street_52 rfl rfl ?_
        refine am_iadd X dX7_street_53 ?_
        refine am_iload_n X dX7_street_54 rfl rfl ?_
        obtain ⟨g, h⟩ := gd_some h
        refine am_iast X dX7_street_55 rfl g ?_
        refine am_tops h (fun σ55 h => ?_)
        refine am_aload_n X dX7_street_56 rfl rfl ?_
        refine am_getf (v := .ref 61) X dX7_street_57 fl_X7_9 rfl rfl (by decide) ?_
        refine am_bipush (v := (17 : Int32)) X dX7_street_60 (by decide) ?_
        refine am_iload_n X dX7_street_62 rfl rfl ?_
        refine am_iadd X dX7_street_63 ?_
        refine am_iload_n X dX7_street_64 rfl rfl ?_
        obtain ⟨g, h⟩ := gd_some h
        refine am_iast X dX7_street_65 rfl g ?_
        refine am_tops h (fun σ65 h => ?_)
        refine am_aload_n X dX7_street_66 rfl rfl ?_
        refine am_getf (v := .ref 61) X dX7_street_67 fl_X7_9 rfl rfl (by decide) ?_
        refine am_bipush (v := (24 : Int32)) X dX7_street_70 (by decide) ?_
        refine am_iload_n X dX7_street_72 rfl rfl ?_
        refine am_iadd X dX7_street_73 ?_
        refine am_iconst (v := (0 : Int32)) X dX7_street_74 (by decide) ?_
        obtain ⟨g, h⟩ := gd_some h
        refine am_iast X dX7_street_75 rfl g ?_
        refine am_tops h (fun σ75 h => ?_)
        refine am_aload_n X dX7_street_76 rfl rfl ?_
        refine am_getf (v := .ref 61) X dX7_street_77 fl_X7_9 rfl rfl (by decide) ?_
        refine am_bipush (v := (31 : Int32)) X dX7_street_80 (by decide) ?_
        refine am_iload_n X dX7_street_82 rfl rfl ?_
        refine am_iadd X dX7_street_83 ?_
        refine am_iconst (v := (0 : Int32)) X dX7_street_84 (by decide) ?_
        obtain ⟨g, h⟩ := gd_some h
        refine am_iast X dX7_street_85 rfl g ?_
        refine am_tops h (fun σ85 h => ?_)
        refine am_iconst (v := (0 : Int32)) X dX7_street_86 (by decide) ?_
        refine am_istore (ls' := [some (.ref 60), some (.int x1), some (.int x2), some (.int x3_45), some (.int (0 : Int32))]) X dX7_street_87 (by decide)  rfl rfl ?_
        exact am_jump (t_X7_street_89 hG N N _ _ _ _ h K h0 X) rfl ⟨rfl, rfl, rfl, trivial⟩
      · have h := if_t h c
        refine am_bipush (v := (-4 : Int32)) X dX7_street_36 (by decide) ?_
        obtain rfl := Option.some.inj h
        exact am_iret X h0 dX7_street_38 rfl ⟨rfl, rfl⟩
    · have h := if_t h c
      refine am_bipush (v := (-2 : Int32)) X dX7_street_22 (by decide) ?_
      obtain rfl := Option.some.inj h
      exact am_iret X h0 dX7_street_24 rfl ⟨rfl, rfl⟩
  · have h := if_t h c
    refine am_iconst (v := (-1 : Int32)) X dX7_street_10 (by decide) ?_
    obtain rfl := Option.some.inj h
    exact am_iret X h0 dX7_street_11 rfl ⟨rfl, rfl⟩
set_option maxRecDepth 100000 in
set_option maxHeartbeats 4000000 in
theorem t_X7_tally_44 {G : Cx} (hG : am_G G) (N : Nat) (x1 : Int32) (x3 : Int32) (s0 : Int32) (σ : Sg) (r : Int32 × Sg) (h : b_X7_tally_44 N x1 x3 s0 σ = some r) : am_Wp G mX7_tally 2 (am_qi r.1 r.2) 44 [some (.ref 60), some (.int x1), none, some (.int x3), none, none] [.int s0] σ := by
  intro K h0 X
  unfold b_X7_tally_44 at h
  refine am_iload_n X dX7_tally_44 rfl rfl ?_
  refine am_iadd X dX7_tally_45 ?_
  refine am_topi h (fun x4_46 h => ?_)
  refine am_istore (ls' := [some (.ref 60), some (.int x1), none, some (.int x3), some (.int x4_46), none]) X dX7_tally_46 (by decide)  rfl rfl ?_
  refine am_aload_n X dX7_tally_48 rfl rfl ?_
  refine am_getf (v := .ref 61) X dX7_tally_49 fl_X7_9 rfl rfl (by decide) ?_
  refine am_iload X dX7_tally_52 rfl ?_
  obtain ⟨g, h⟩ := gd_some h
  refine am_iald X dX7_tally_54 rfl g ?_
  refine am_topi h (fun x5_55 h => ?_)
  refine am_istore (ls' := [some (.ref 60), some (.int x1), none, some (.int x3), some (.int x4_46), some (.int x5_55)]) X dX7_tally_55 (by decide)  rfl rfl ?_
  refine am_aload_n X dX7_tally_57 rfl rfl ?_
  refine am_getf (v := .ref 61) X dX7_tally_58 fl_X7_9 rfl rfl (by decide) ?_
  refine am_iload X dX7_tally_61 rfl ?_
  refine am_iload_n X dX7_tally_63 rfl rfl ?_
  obtain ⟨g, h⟩ := gd_some h
  refine am_iast X dX7_tally_64 rfl g ?_
  refine am_tops h (fun σ64 h => ?_)
  refine am_iload X dX7_tally_65 rfl ?_
  obtain rfl := Option.some.inj h
  exact am_iret X h0 dX7_tally_67 rfl ⟨rfl, rfl⟩
set_option maxRecDepth 100000 in
set_option maxHeartbeats 4000000 in
theorem ct_X7_tally {G : Cx} (hG : am_G G) (N : Nat) (x1 : Int32) (x2 : Int32) (x3 : Int32) (σ : Sg) (r : Int32 × Sg) (h : f_X7_tally N x1 x2 x3 σ = some r) : am_Ct G 3 yX7_tally mX7_tally [.ref 60, .int x1, .int x2, .int x3] σ (am_qi r.1 r.2) := by
  refine am_enter hG rfl rfl (Nat.le_of_ble_eq_true rfl) ?_
  intro K h0 X
  unfold f_X7_tally at h
  refine am_jump (pc' := 0) (ls' := [some (.ref 60), some (.int x1), some (.int x2), some (.int x3), none, none]) ?_ rfl ⟨rfl, rfl, rfl, rfl, trivial⟩
  refine am_aload_n X dX7_tally_0 rfl rfl ?_
  refine am_iload_n X dX7_tally_1 rfl rfl ?_
  obtain ⟨v2, σ2, hc, h⟩ := bd2_some h
  refine am_callv_i1 X dX7_tally_2 cw_X7_161 (ct_X7_isStreet hG N _ _ _ hc) (Nat.le_of_ble_eq_true rfl) rfl rfl rfl rfl (Nat.le_of_ble_eq_true rfl) ?_
  refine am_if_eq (tgt := 17) X dX7_tally_5 (by decide) (fun c => ?_) (fun c => ?_)
  · have h := if_t h c
    refine am_iconst (v := (-1 : Int32)) X dX7_tally_17 (by decide) ?_
    obtain rfl := Option.some.inj h
    exact am_iret X h0 dX7_tally_18 rfl ⟨rfl, rfl⟩
  · have h := if_f h c
    refine am_iload_n X dX7_tally_8 rfl rfl ?_
    refine am_iconst (v := (0 : Int32)) X dX7_tally_9 (by decide) ?_
    refine am_iconst (v := (1 : Int32)) X dX7_tally_10 (by decide) ?_
    obtain ⟨v11, σ11, hc, h⟩ := bd2_some h
    refine am_calls_i3 X dX7_tally_11 cw_X7_84 (ct_X7_in hG N _ _ _ _ _ hc) (Nat.le_of_ble_eq_true rfl) rfl (Nat.le_of_ble_eq_true rfl) ?_
    refine am_if_ne (tgt := 19) X dX7_tally_14 (by decide) (fun c => ?_) (fun c => ?_)
    · have h := if_f h c
      refine am_iload_n X dX7_tally_19 rfl rfl ?_
      refine am_iconst (v := (0 : Int32)) X dX7_tally_20 (by decide) ?_
      refine am_sipush (v := (9999 : Int32)) X dX7_tally_21 (by decide) ?_
      obtain ⟨v24, σ24, hc, h⟩ := bd2_some h
      refine am_calls_i3 X dX7_tally_24 cw_X7_84 (ct_X7_in hG N _ _ _ _ _ hc) (Nat.le_of_ble_eq_true rfl) rfl (Nat.le_of_ble_eq_true rfl) ?_
      refine am_if_ne (tgt := 33) X dX7_tally_27 (by decide) (fun c => ?_) (fun c => ?_)
      · have h := if_f h c
        refine am_iload_n X dX7_tally_33 rfl rfl ?_
        refine am_if_ne (tgt := 42) X dX7_tally_34 (by decide) (fun c => ?_) (fun c => ?_)
        · have h := if_f h c
          refine am_bipush (v := (31 : Int32)) X dX7_tally_42 (by decide) ?_
          exact am_jump (t_X7_tally_44 hG N _ _ _ _ _ h K h0 X) rfl ⟨rfl, rfl, rfl, trivial⟩
        · have h := if_t h c
          refine am_bipush (v := (24 : Int32)) X dX7_tally_37 (by decide) ?_
          refine am_goto (tgt := 44) X dX7_tally_39 (by decide) ?_
          exact am_jump (t_X7_tally_44 hG N _ _ _ _ _ h K h0 X) rfl ⟨rfl, rfl, rfl, trivial⟩
      · have h := if_t h c
        refine am_bipush (v := (-2 : Int32)) X dX7_tally_30 (by decide) ?_
        obtain rfl := Option.some.inj h
        exact am_iret X h0 dX7_tally_32 rfl ⟨rfl, rfl⟩
    · have h := if_t h c
      refine am_iconst (v := (-1 : Int32)) X dX7_tally_17 (by decide) ?_
      obtain rfl := Option.some.inj h
      exact am_iret X h0 dX7_tally_18 rfl ⟨rfl, rfl⟩
set_option maxRecDepth 100000 in
set_option maxHeartbeats 4000000 in
theorem ct_X7_tell {G : Cx} (hG : am_G G) (N : Nat) (x1 : Int32) (x2 : Int32) (σ : Sg) (r : Int32 × Sg) (h : f_X7_tell N x1 x2 σ = some r) : am_Ct G 2 yX7_tell mX7_tell [.ref 60, .int x1, .int x2] σ (am_qi r.1 r.2) := by
  refine am_enter hG rfl rfl (Nat.le_of_ble_eq_true rfl) ?_
  intro K h0 X
  unfold f_X7_tell at h
  refine am_jump (pc' := 0) (ls' := [some (.ref 60), some (.int x1), some (.int x2)]) ?_ rfl ⟨rfl, rfl, rfl, trivial⟩
  refine am_iload_n X dX7_tell_0 rfl rfl ?_
  refine am_iconst (v := (-1 : Int32)) X dX7_tell_1 (by decide) ?_
  refine am_icmp_ne (tgt := 14) X dX7_tell_2 (by decide) (fun c => ?_) (fun c => ?_)
  · have h := if_f h c
    refine am_iload_n X dX7_tell_14 rfl rfl ?_
    refine am_iconst (v := (0 : Int32)) X dX7_tell_15 (by decide) ?_
    refine am_sipush (v := (999 : Int32)) X dX7_tell_16 (by decide) ?_
    obtain ⟨v19, σ19, hc, h⟩ := bd2_some h
    refine am_calls_i3 X dX7_tell_19 cw_X7_84 (ct_X7_in hG N _ _ _ _ _ hc) (Nat.le_of_ble_eq_true rfl) rfl (Nat.le_of_ble_eq_true rfl) ?_
    refine am_if_eq (tgt := 36) X dX7_tell_22 (by decide) (fun c => ?_) (fun c => ?_)
    · have h := if_t h c
      refine am_bipush (v := (-2 : Int32)) X dX7_tell_36 (by decide) ?_
      obtain rfl := Option.some.inj h
      exact am_iret X h0 dX7_tell_38 rfl ⟨rfl, rfl⟩
    · have h := if_f h c
      refine am_iload_n X dX7_tell_25 rfl rfl ?_
      refine am_iconst (v := (0 : Int32)) X dX7_tell_26 (by decide) ?_
      refine am_sipush (v := (999 : Int32)) X dX7_tell_27 (by decide) ?_
      obtain ⟨v30, σ30, hc, h⟩ := bd2_some h
      refine am_calls_i3 X dX7_tell_30 cw_X7_84 (ct_X7_in hG N _ _ _ _ _ hc) (Nat.le_of_ble_eq_true rfl) rfl (Nat.le_of_ble_eq_true rfl) ?_
      refine am_if_ne (tgt := 39) X dX7_tell_33 (by decide) (fun c => ?_) (fun c => ?_)
      · have h := if_f h c
        refine am_aload_n X dX7_tell_39 rfl rfl ?_
        refine am_getf (v := .ref 61) X dX7_tell_40 fl_X7_9 rfl rfl (by decide) ?_
        refine am_iconst (v := (2 : Int32)) X dX7_tell_43 (by decide) ?_
        obtain ⟨g, h⟩ := gd_some h
        refine am_iald X dX7_tell_44 rfl g ?_
        refine am_bipush (v := (7 : Int32)) X dX7_tell_45 (by decide) ?_
        refine am_icmp_ne (tgt := 53) X dX7_tell_47 (by decide) (fun c => ?_) (fun c => ?_)
        · have h := if_f h c
          refine am_aload_n X dX7_tell_53 rfl rfl ?_
          refine am_getf (v := .ref 61) X dX7_tell_54 fl_X7_9 rfl rfl (by decide) ?_
          refine am_bipush (v := (87 : Int32)) X dX7_tell_57 (by decide) ?_
          refine am_aload_n X dX7_tell_59 rfl rfl ?_
          refine am_getf (v := .ref 61) X dX7_tell_60 fl_X7_9 rfl rfl (by decide) ?_
          refine am_iconst (v := (2 : Int32)) X dX7_tell_63 (by decide) ?_
          obtain ⟨g, h⟩ := gd_some h
          refine am_iald X dX7_tell_64 rfl g ?_
          refine am_iadd X dX7_tell_65 ?_
          refine am_iload_n X dX7_tell_66 rfl rfl ?_
          obtain ⟨g, h⟩ := gd_some h
          refine am_iast X dX7_tell_67 rfl g ?_
          refine am_tops h (fun σ67 h => ?_)
          refine am_aload_n X dX7_tell_68 rfl rfl ?_
          refine am_getf (v := .ref 61) X dX7_tell_69 fl_X7_9 rfl rfl (by decide) ?_
          refine am_bipush (v := (94 : Int32)) X dX7_tell_72 (by decide) ?_
          refine am_aload_n X dX7_tell_74 rfl rfl ?_
          refine am_getf (v := .ref 61) X dX7_tell_75 fl_X7_9 rfl rfl (by decide) ?_
          refine am_iconst (v := (2 : Int32)) X dX7_tell_78 (by decide) ?_
          obtain ⟨g, h⟩ := gd_some h
          refine am_iald X dX7_tell_79 rfl g ?_
          refine am_iadd X dX7_tell_80 ?_
          refine am_iload_n X dX7_tell_81 rfl rfl ?_
          obtain ⟨g, h⟩ := gd_some h
          refine am_iast X dX7_tell_82 rfl g ?_
          refine am_tops h (fun σ82 h => ?_)
          refine am_aload_n X dX7_tell_83 rfl rfl ?_
          refine am_getf (v := .ref 61) X dX7_tell_84 fl_X7_9 rfl rfl (by decide) ?_
          refine am_iconst (v := (2 : Int32)) X dX7_tell_87 (by decide) ?_
          refine am_dup2 X dX7_tell_88 rfl rfl ?_
          obtain ⟨g, h⟩ := gd_some h
          refine am_iald X dX7_tell_89 rfl g ?_
          refine am_iconst (v := (1 : Int32)) X dX7_tell_90 (by decide) ?_
          refine am_iadd X dX7_tell_91 ?_
          obtain ⟨g, h⟩ := gd_some h
          refine am_iast X dX7_tell_92 rfl g ?_
          refine am_tops h (fun σ92 h => ?_)
          refine am_aload_n X dX7_tell_93 rfl rfl ?_
          refine am_getf (v := .ref 61) X dX7_tell_94 fl_X7_9 rfl rfl (by decide) ?_
          refine am_iconst (v := (2 : Int32)) X dX7_tell_97 (by decide) ?_
          obtain ⟨g, h⟩ := gd_some h
          refine am_iald X dX7_tell_98 rfl g ?_
          obtain rfl := Option.some.inj h
          exact am_iret X h0 dX7_tell_99 rfl ⟨rfl, rfl⟩
        · have h := if_t h c
          refine am_bipush (v := (-4 : Int32)) X dX7_tell_50 (by decide) ?_
          obtain rfl := Option.some.inj h
          exact am_iret X h0 dX7_tell_52 rfl ⟨rfl, rfl⟩
      · have h := if_t h c
        refine am_bipush (v := (-2 : Int32)) X dX7_tell_36 (by decide) ?_
        obtain rfl := Option.some.inj h
        exact am_iret X h0 dX7_tell_38 rfl ⟨rfl, rfl⟩
  · have h := if_t h c
    refine am_aload_n X dX7_tell_5 rfl rfl ?_
    refine am_getf (v := .ref 61) X dX7_tell_6 fl_X7_9 rfl rfl (by decide) ?_
    refine am_iconst (v := (2 : Int32)) X dX7_tell_9 (by decide) ?_
    refine am_iconst (v := (0 : Int32)) X dX7_tell_10 (by decide) ?_
    obtain ⟨g, h⟩ := gd_some h
    refine am_iast X dX7_tell_11 rfl g ?_
    refine am_tops h (fun σ11 h => ?_)
    refine am_iconst (v := (0 : Int32)) X dX7_tell_12 (by decide) ?_
    obtain rfl := Option.some.inj h
    exact am_iret X h0 dX7_tell_13 rfl ⟨rfl, rfl⟩
set_option maxRecDepth 100000 in
set_option maxHeartbeats 4000000 in
theorem t_X7_told_9 {G : Cx} (hG : am_G G) (N : Nat) (x1 : Int32) (σ : Sg) (r : Int32 × Sg) (h : b_X7_told_9 N x1 σ = some r) : am_Wp G mX7_told 5 (am_qi r.1 r.2) 9 [some (.ref 60), some (.int x1), none, none] [] σ := by
  intro K h0 X
  unfold b_X7_told_9 at h
  refine am_iload_n X dX7_told_9 rfl rfl ?_
  refine am_if_ne (tgt := 22) X dX7_told_10 (by decide) (fun c => ?_) (fun c => ?_)
  · have h := if_f h c
    refine am_aload_n X dX7_told_22 rfl rfl ?_
    obtain ⟨v23, σ23, hc, h⟩ := bd2_some h
    refine am_callv_i0 X dX7_told_23 cw_X7_210 (ct_X7_paying hG N _ _ hc) (Nat.le_of_ble_eq_true rfl) rfl rfl rfl rfl (Nat.le_of_ble_eq_true rfl) ?_
    obtain rfl := Option.some.inj h
    exact am_iret X h0 dX7_told_26 rfl ⟨rfl, rfl⟩
  · have h := if_t h c
    refine am_aload_n X dX7_told_13 rfl rfl ?_
    refine am_getf (v := .ref 61) X dX7_told_14 fl_X7_9 rfl rfl (by decide) ?_
    refine am_iconst (v := (5 : Int32)) X dX7_told_17 (by decide) ?_
    obtain ⟨g, h⟩ := gd_some h
    refine am_iald X dX7_told_18 rfl g ?_
    refine am_goto (tgt := 26) X dX7_told_19 (by decide) ?_
    obtain rfl := Option.some.inj h
    exact am_iret X h0 dX7_told_26 rfl ⟨rfl, rfl⟩
set_option maxRecDepth 100000 in
set_option maxHeartbeats 4000000 in
theorem t_X7_told_73 {G : Cx} (hG : am_G G) (N : Nat) (k44 : Int32 → Int32 → Int32 → Sg → Option (Int32 × Sg)) (hk44 : ∀ (x1 : Int32) (x2 : Int32) (x3 : Int32) (σ : Sg) (r : Int32 × Sg), k44 x1 x2 x3 σ = some r → am_Wp G mX7_told 5 (am_qi r.1 r.2) 44 [some (.ref 60), some (.int x1), some (.int x2), some (.int x3)] [] σ) (x1 : Int32) (x3 : Int32) (s0 : Int32) (s1 : Int32) (σ : Sg) (r : Int32 × Sg) (h : b_X7_told_73 N k44 x1 x3 s0 s1 σ = some r) : am_Wp G mX7_told 5 (am_qi r.1 r.2) 73 [some (.ref 60), some (.int x1), none, some (.int x3)] [.int s1, .int s0] σ := by
  intro K h0 X
  unfold b_X7_told_73 at h
  refine am_iadd X dX7_told_73 ?_
  refine am_topi h (fun x2_74 h => ?_)
  refine am_istore_n (ls' := [some (.ref 60), some (.int x1), some (.int x2_74), some (.int x3)]) X dX7_told_74 rfl (by decide)  rfl rfl ?_
  refine am_iinc (ls' := fun x3_75 => [some (.ref 60), some (.int x1), some (.int x2_74), some (.int x3_75)]) X dX7_told_75 rfl h (by decide) (by decide) rfl (fun _ => rfl) (fun x3_75 h => ?_)
  refine am_goto (tgt := 44) X dX7_told_78 (by decide) ?_
  exact am_jump (hk44 _ _ _ _ _ h K h0 X) rfl ⟨rfl, rfl, rfl, rfl, trivial⟩
set_option maxRecDepth 100000 in
set_option maxHeartbeats 4000000 in
theorem t_X7_told_44b {G : Cx} (hG : am_G G) (N : Nat) (k44 : Int32 → Int32 → Int32 → Sg → Option (Int32 × Sg)) (hk44 : ∀ (x1 : Int32) (x2 : Int32) (x3 : Int32) (σ : Sg) (r : Int32 × Sg), k44 x1 x2 x3 σ = some r → am_Wp G mX7_told 5 (am_qi r.1 r.2) 44 [some (.ref 60), some (.int x1), some (.int x2), some (.int x3)] [] σ) (x1 : Int32) (x2 : Int32) (x3 : Int32) (σ : Sg) (r : Int32 × Sg) (h : b_X7_told_44b N k44 x1 x2 x3 σ = some r) : am_Wp G mX7_told 5 (am_qi r.1 r.2) 44 [some (.ref 60), some (.int x1), some (.int x2), some (.int x3)] [] σ := by
  intro K h0 X
  unfold b_X7_told_44b at h
  refine am_iload_n X dX7_told_44 rfl rfl ?_
  refine am_aload_n X dX7_told_45 rfl rfl ?_
  refine am_getf (v := .ref 61) X dX7_told_46 fl_X7_9 rfl rfl (by decide) ?_
  refine am_iconst (v := (0 : Int32)) X dX7_told_49 (by decide) ?_
  obtain ⟨g, h⟩ := gd_some h
  refine am_iald X dX7_told_50 rfl g ?_
  refine am_icmp_ge (tgt := 81) X dX7_told_51 (by decide) (fun c => ?_) (fun c => ?_)
  · have h := if_t h c
    refine am_iload_n X dX7_told_81 rfl rfl ?_
    obtain rfl := Option.some.inj h
    exact am_iret X h0 dX7_told_82 rfl ⟨rfl, rfl⟩
  · have h := if_f h c
    refine am_iload_n X dX7_told_54 rfl rfl ?_
    refine am_iload_n X dX7_told_55 rfl rfl ?_
    refine am_iconst (v := (1 : Int32)) X dX7_told_56 (by decide) ?_
    refine am_icmp_ne (tgt := 68) X dX7_told_57 (by decide) (fun c => ?_) (fun c => ?_)
    · have h := if_f h c
      refine am_aload_n X dX7_told_68 rfl rfl ?_
      refine am_iload_n X dX7_told_69 rfl rfl ?_
      obtain ⟨v70, σ70, hc, h⟩ := bd2_some h
      refine am_callv_i1 X dX7_told_70 cw_X7_169 (ct_X7_uneven hG N _ _ _ hc) (Nat.le_of_ble_eq_true rfl) rfl rfl rfl rfl (Nat.le_of_ble_eq_true rfl) ?_
      exact am_jump (t_X7_told_73 hG N k44 hk44 _ _ _ _ _ _ h K h0 X) rfl ⟨rfl, rfl, rfl, trivial⟩
    · have h := if_t h c
      refine am_aload_n X dX7_told_60 rfl rfl ?_
      refine am_iload_n X dX7_told_61 rfl rfl ?_
      obtain ⟨v62, σ62, hc, h⟩ := bd2_some h
      refine am_callv_i1 X dX7_told_62 cw_X7_204 (ct_X7_paysOf hG N _ _ _ hc) (Nat.le_of_ble_eq_true rfl) rfl rfl rfl rfl (Nat.le_of_ble_eq_true rfl) ?_
      refine am_goto (tgt := 73) X dX7_told_65 (by decide) ?_
      exact am_jump (t_X7_told_73 hG N k44 hk44 _ _ _ _ _ _ h K h0 X) rfl ⟨rfl, rfl, rfl, trivial⟩
set_option maxRecDepth 100000 in
set_option maxHeartbeats 4000000 in
theorem t_X7_told_44 {G : Cx} (hG : am_G G) (N : Nat) : ∀ (n : Nat) (x1 : Int32) (x2 : Int32) (x3 : Int32) (σ : Sg) (r : Int32 × Sg), b_X7_told_44 N n x1 x2 x3 σ = some r → am_Wp G mX7_told 5 (am_qi r.1 r.2) 44 [some (.ref 60), some (.int x1), some (.int x2), some (.int x3)] [] σ := by
  intro n
  induction n with
  | zero => intro x1 x2 x3 σ r h; cases h
  | succ n ih => intro x1 x2 x3 σ r h; exact t_X7_told_44b hG N (b_X7_told_44 N n) ih x1 x2 x3 σ r h
set_option maxRecDepth 100000 in
set_option maxHeartbeats 4000000 in
theorem t_X7_told_40 {G : Cx} (hG : am_G G) (N : Nat) (x1 : Int32) (σ : Sg) (r : Int32 × Sg) (h : b_X7_told_40 N x1 σ = some r) : am_Wp G mX7_told 5 (am_qi r.1 r.2) 40 [some (.ref 60), some (.int x1), none, none] [] σ := by
  intro K h0 X
  unfold b_X7_told_40 at h
  refine am_iconst (v := (0 : Int32)) X dX7_told_40 (by decide) ?_
  refine am_istore_n (ls' := [some (.ref 60), some (.int x1), some (.int (0 : Int32)), none]) X dX7_told_41 rfl (by decide)  rfl rfl ?_
  refine am_iconst (v := (0 : Int32)) X dX7_told_42 (by decide) ?_
  refine am_istore_n (ls' := [some (.ref 60), some (.int x1), some (.int (0 : Int32)), some (.int (0 : Int32))]) X dX7_told_43 rfl (by decide)  rfl rfl ?_
  exact am_jump (t_X7_told_44 hG N N _ _ _ _ _ h K h0 X) rfl ⟨rfl, rfl, rfl, rfl, trivial⟩
set_option maxRecDepth 100000 in
set_option maxHeartbeats 4000000 in
theorem ct_X7_told {G : Cx} (hG : am_G G) (N : Nat) (x1 : Int32) (σ : Sg) (r : Int32 × Sg) (h : f_X7_told N x1 σ = some r) : am_Ct G 6 yX7_told mX7_told [.ref 60, .int x1] σ (am_qi r.1 r.2) := by
  refine am_enter hG rfl rfl (Nat.le_of_ble_eq_true rfl) ?_
  intro K h0 X
  unfold f_X7_told at h
  refine am_jump (pc' := 0) (ls' := [some (.ref 60), some (.int x1), none, none]) ?_ rfl ⟨rfl, rfl, trivial⟩
  refine am_iload_n X dX7_told_0 rfl rfl ?_
  refine am_if_eq (tgt := 9) X dX7_told_1 (by decide) (fun c => ?_) (fun c => ?_)
  · have h := if_t h c
    exact am_jump (t_X7_told_9 hG N _ _ _ h K h0 X) rfl ⟨rfl, rfl, trivial⟩
  · have h := if_f h c
    refine am_iload_n X dX7_told_4 rfl rfl ?_
    refine am_iconst (v := (3 : Int32)) X dX7_told_5 (by decide) ?_
    refine am_icmp_ne (tgt := 27) X dX7_told_6 (by decide) (fun c => ?_) (fun c => ?_)
    · have h := if_f h c
      refine am_iload_n X dX7_told_27 rfl rfl ?_
      refine am_iconst (v := (1 : Int32)) X dX7_told_28 (by decide) ?_
      refine am_icmp_eq (tgt := 40) X dX7_told_29 (by decide) (fun c => ?_) (fun c => ?_)
      · have h := if_t h c
        exact am_jump (t_X7_told_40 hG N _ _ _ h K h0 X) rfl ⟨rfl, rfl, trivial⟩
      · have h := if_f h c
        refine am_iload_n X dX7_told_32 rfl rfl ?_
        refine am_iconst (v := (2 : Int32)) X dX7_told_33 (by decide) ?_
        refine am_icmp_eq (tgt := 40) X dX7_told_34 (by decide) (fun c => ?_) (fun c => ?_)
        · have h := if_t h c
          exact am_jump (t_X7_told_40 hG N _ _ _ h K h0 X) rfl ⟨rfl, rfl, trivial⟩
        · have h := if_f h c
          refine am_ldc (v := (-1000001 : Int32)) X dX7_told_37 (wm_r20 _ (List.mem_of_getElem? (i := 3) rfl)) ?_
          obtain rfl := Option.some.inj h
          exact am_iret X h0 dX7_told_39 rfl ⟨rfl, rfl⟩
    · have h := if_t h c
      exact am_jump (t_X7_told_9 hG N _ _ _ h K h0 X) rfl ⟨rfl, rfl, trivial⟩
set_option maxRecDepth 100000 in
set_option maxHeartbeats 4000000 in
theorem ct_X7_here {G : Cx} (hG : am_G G) (N : Nat) (σ : Sg) (r : Int32 × Sg) (h : f_X7_here N σ = some r) : am_Ct G 1 yX7_here mX7_here [.ref 60] σ (am_qi r.1 r.2) := by
  refine am_enter hG rfl rfl (Nat.le_of_ble_eq_true rfl) ?_
  intro K h0 X
  unfold f_X7_here at h
  refine am_jump (pc' := 0) (ls' := [some (.ref 60)]) ?_ rfl ⟨rfl, trivial⟩
  refine am_aload_n X dX7_here_0 rfl rfl ?_
  refine am_getf (v := .int (rg σ 60 5)) X dX7_here_1 fl_X7_88 rfl rfl (by decide) ?_
  refine am_aload_n X dX7_here_4 rfl rfl ?_
  refine am_getf (v := .int (rg σ 60 6)) X dX7_here_5 fl_X7_91 rfl rfl (by decide) ?_
  refine am_icmp_ge (tgt := 26) X dX7_here_8 (by decide) (fun c => ?_) (fun c => ?_)
  · have h := if_t h c
    refine am_iconst (v := (-1 : Int32)) X dX7_here_26 (by decide) ?_
    obtain rfl := Option.some.inj h
    exact am_iret X h0 dX7_here_27 rfl ⟨rfl, rfl⟩
  · have h := if_f h c
    refine am_aload_n X dX7_here_11 rfl rfl ?_
    refine am_getf (v := .ref 61) X dX7_here_12 fl_X7_9 rfl rfl (by decide) ?_
    refine am_bipush (v := (101 : Int32)) X dX7_here_15 (by decide) ?_
    refine am_aload_n X dX7_here_17 rfl rfl ?_
    refine am_getf (v := .int (rg σ 60 5)) X dX7_here_18 fl_X7_88 rfl rfl (by decide) ?_
    refine am_iadd X dX7_here_21 ?_
    obtain ⟨g, h⟩ := gd_some h
    refine am_iald X dX7_here_22 rfl g ?_
    refine am_goto (tgt := 27) X dX7_here_23 (by decide) ?_
    obtain rfl := Option.some.inj h
    exact am_iret X h0 dX7_here_27 rfl ⟨rfl, rfl⟩
set_option maxRecDepth 100000 in
set_option maxHeartbeats 4000000 in
theorem t_X7_must_21 {G : Cx} (hG : am_G G) (N : Nat) (s1 : Int32) (σ : Sg) (r : Sg) (h : b_X7_must_21 N s1 σ = some r) : am_Wp G mX7_must 1 (am_qv r) 21 [some (.ref 60), none] [.int s1, .ref 60] σ := by
  intro K h0 X
  unfold b_X7_must_21 at h
  obtain ⟨g, h⟩ := gd_some h
  refine am_putfz X dX7_must_21 fp_X7_94 rfl rfl (nbz_eq g) ?_
  refine am_tops h (fun σ21 h => ?_)
  refine am_aload_n X dX7_must_24 rfl rfl ?_
  refine am_dup X dX7_must_25 rfl ?_
  refine am_getf (v := .int (rg σ21 60 5)) X dX7_must_26 fl_X7_88 rfl rfl (by decide) ?_
  refine am_aload_n X dX7_must_29 rfl rfl ?_
  refine am_getf (v := .int (rg σ21 60 7)) X dX7_must_30 fl_X7_94 rfl rfl (by decide) ?_
  refine am_if_eq (tgt := 40) X dX7_must_33 (by decide) (fun c => ?_) (fun c => ?_)
  · have h := if_t h c
    refine am_iconst (v := (1 : Int32)) X dX7_must_40 (by decide) ?_
    refine am_iadd X dX7_must_41 ?_
    refine am_putfi X dX7_must_42 fp_X7_88 rfl rfl ?_
    refine am_tops h (fun σ42 h => ?_)
    obtain rfl := Option.some.inj h
    exact am_vret X h0 dX7_must_45 rfl ⟨rfl, rfl⟩
  · have h := if_f h c
    refine am_iconst (v := (0 : Int32)) X dX7_must_36 (by decide) ?_
    refine am_goto (tgt := 41) X dX7_must_37 (by decide) ?_
    refine am_iadd X dX7_must_41 ?_
    refine am_putfi X dX7_must_42 fp_X7_88 rfl rfl ?_
    refine am_tops h (fun σ42 h => ?_)
    obtain rfl := Option.some.inj h
    exact am_vret X h0 dX7_must_45 rfl ⟨rfl, rfl⟩
set_option maxRecDepth 100000 in
set_option maxHeartbeats 4000000 in
theorem t_X7_must_16 {G : Cx} (hG : am_G G) (N : Nat) (σ : Sg) (r : Sg) (h : b_X7_must_16 N σ = some r) : am_Wp G mX7_must 1 (am_qv r) 16 [some (.ref 60), none] [.ref 60] σ := by
  intro K h0 X
  unfold b_X7_must_16 at h
  refine am_iconst (v := (1 : Int32)) X dX7_must_16 (by decide) ?_
  refine am_goto (tgt := 21) X dX7_must_17 (by decide) ?_
  exact am_jump (t_X7_must_21 hG N _ _ _ h K h0 X) rfl ⟨rfl, trivial⟩
set_option maxRecDepth 100000 in
set_option maxHeartbeats 4000000 in
theorem ct_X7_must {G : Cx} (hG : am_G G) (N : Nat) (x1 : Int32) (σ : Sg) (r : Sg) (h : f_X7_must N x1 σ = some r) : am_Ct G 2 yX7_must mX7_must [.ref 60, .int x1] σ (am_qv r) := by
  refine am_enter hG rfl rfl (Nat.le_of_ble_eq_true rfl) ?_
  intro K h0 X
  unfold f_X7_must at h
  refine am_jump (pc' := 0) (ls' := [some (.ref 60), some (.int x1)]) ?_ rfl ⟨rfl, rfl, trivial⟩
  refine am_aload_n X dX7_must_0 rfl rfl ?_
  refine am_aload_n X dX7_must_1 rfl rfl ?_
  refine am_getf (v := .int (rg σ 60 7)) X dX7_must_2 fl_X7_94 rfl rfl (by decide) ?_
  refine am_if_ne (tgt := 16) X dX7_must_5 (by decide) (fun c => ?_) (fun c => ?_)
  · have h := if_f h c
    exact am_jump (t_X7_must_16 hG N _ _ h K h0 X) rfl ⟨rfl, trivial⟩
  · have h := if_t h c
    refine am_aload_n X dX7_must_8 rfl rfl ?_
    obtain ⟨v9, σ9, hc, h⟩ := bd2_some h
    refine am_callv_i0 X dX7_must_9 cw_X7_98 (ct_X7_here hG N _ _ hc) (Nat.le_of_ble_eq_true rfl) rfl rfl rfl rfl (Nat.le_of_ble_eq_true rfl) ?_
    refine am_iload_n X dX7_must_12 rfl rfl ?_
    refine am_icmp_eq (tgt := 20) X dX7_must_13 (by decide) (fun c => ?_) (fun c => ?_)
    · have h := if_t h c
      refine am_iconst (v := (0 : Int32)) X dX7_must_20 (by decide) ?_
      exact am_jump (t_X7_must_21 hG N _ _ _ h K h0 X) rfl ⟨rfl, trivial⟩
    · have h := if_f h c
      exact am_jump (t_X7_must_16 hG N _ _ h K h0 X) rfl ⟨rfl, trivial⟩
set_option maxRecDepth 100000 in
set_option maxHeartbeats 4000000 in
theorem t_X7_spells_2b {G : Cx} (hG : am_G G) (N : Nat) (k2 : Int32 → Sg → Option (Sg)) (hk2 : ∀ (x2 : Int32) (σ : Sg) (r : Sg), k2 x2 σ = some r → am_Wp G mX7_spells 4 (am_qv r) 2 [some (.ref 60), some (.ref 107), some (.int x2)] [] σ) (x2 : Int32) (σ : Sg) (r : Sg) (h : b_X7_spells_2b N k2 x2 σ = some r) : am_Wp G mX7_spells 4 (am_qv r) 2 [some (.ref 60), some (.ref 107), some (.int x2)] [] σ := by
  intro K h0 X
  unfold b_X7_spells_2b at h
  refine am_iload_n X dX7_spells_2 rfl rfl ?_
  refine am_aload_n X dX7_spells_3 rfl rfl ?_
  refine am_strlen (i := 7) (v := (6 : Int32)) X hG dX7_spells_4 cw_X7_102 ⟨by decide, rfl, by decide⟩ (Nat.le_of_ble_eq_true rfl) (Nat.le_of_ble_eq_true rfl) ?_
  refine am_icmp_ge (tgt := 25) X dX7_spells_7 (by decide) (fun c => ?_) (fun c => ?_)
  · have h := if_t h c
    obtain rfl := Option.some.inj h
    exact am_vret X h0 dX7_spells_25 rfl ⟨rfl, rfl⟩
  · have h := if_f h c
    refine am_aload_n X dX7_spells_10 rfl rfl ?_
    refine am_aload_n X dX7_spells_11 rfl rfl ?_
    refine am_iload_n X dX7_spells_12 rfl rfl ?_
    obtain ⟨g, h⟩ := gd_some h
    refine am_charAt (i := 7) X hG dX7_spells_13 cw_X7_107 ⟨by decide, rfl, rfl⟩ g (Nat.le_of_ble_eq_true rfl) (Nat.le_of_ble_eq_true rfl) ?_
    obtain ⟨σ16, hc, h⟩ := bd_some h
    refine am_callv_v1 X dX7_spells_16 cw_X7_111 (ct_X7_must hG N _ _ _ hc) (Nat.le_of_ble_eq_true rfl) rfl rfl rfl rfl (Nat.le_of_ble_eq_true rfl) ?_
    refine am_iinc (ls' := fun x2_19 => [some (.ref 60), some (.ref 107), some (.int x2_19)]) X dX7_spells_19 rfl h (by decide) (by decide) rfl (fun _ => rfl) (fun x2_19 h => ?_)
    refine am_goto (tgt := 2) X dX7_spells_22 (by decide) ?_
    exact am_jump (hk2 _ _ _ h K h0 X) rfl ⟨rfl, rfl, rfl, trivial⟩
set_option maxRecDepth 100000 in
set_option maxHeartbeats 4000000 in
theorem t_X7_spells_2 {G : Cx} (hG : am_G G) (N : Nat) : ∀ (n : Nat) (x2 : Int32) (σ : Sg) (r : Sg), b_X7_spells_2 N n x2 σ = some r → am_Wp G mX7_spells 4 (am_qv r) 2 [some (.ref 60), some (.ref 107), some (.int x2)] [] σ := by
  intro n
  induction n with
  | zero => intro x2 σ r h; cases h
  | succ n ih => intro x2 σ r h; exact t_X7_spells_2b hG N (b_X7_spells_2 N n) ih x2 σ r h
set_option maxRecDepth 100000 in
set_option maxHeartbeats 4000000 in
theorem ct_X7_spells {G : Cx} (hG : am_G G) (N : Nat) (σ : Sg) (r : Sg) (h : f_X7_spells N σ = some r) : am_Ct G 5 yX7_spells mX7_spells [.ref 60, .ref 107] σ (am_qv r) := by
  refine am_enter hG rfl rfl (Nat.le_of_ble_eq_true rfl) ?_
  intro K h0 X
  unfold f_X7_spells at h
  refine am_jump (pc' := 0) (ls' := [some (.ref 60), some (.ref 107), none]) ?_ rfl ⟨rfl, rfl, trivial⟩
  refine am_iconst (v := (0 : Int32)) X dX7_spells_0 (by decide) ?_
  refine am_istore_n (ls' := [some (.ref 60), some (.ref 107), some (.int (0 : Int32))]) X dX7_spells_1 rfl (by decide)  rfl rfl ?_
  exact am_jump (t_X7_spells_2 hG N N _ _ _ h K h0 X) rfl ⟨rfl, rfl, rfl, trivial⟩
set_option maxRecDepth 100000 in
set_option maxHeartbeats 4000000 in
theorem t_X7_figures_68 {G : Cx} (hG : am_G G) (N : Nat) (k34 : Int32 → Int32 → Sg → Option (Int32 × Sg)) (hk34 : ∀ (x1 : Int32) (x2 : Int32) (σ : Sg) (r : Int32 × Sg), k34 x1 x2 σ = some r → am_Wp G mX7_figures 1 (am_qi r.1 r.2) 34 [some (.ref 60), some (.int x1), some (.int x2)] [] σ) (x1 : Int32) (x2 : Int32) (σ : Sg) (r : Int32 × Sg) (h : b_X7_figures_68 N k34 x1 x2 σ = some r) : am_Wp G mX7_figures 1 (am_qi r.1 r.2) 68 [some (.ref 60), some (.int x1), some (.int x2)] [] σ := by
  intro K h0 X
  unfold b_X7_figures_68 at h
  refine am_bipush (v := (10 : Int32)) X dX7_figures_68 (by decide) ?_
  refine am_iload_n X dX7_figures_70 rfl rfl ?_
  refine am_imul X dX7_figures_71 ?_
  refine am_aload_n X dX7_figures_72 rfl rfl ?_
  obtain ⟨v73, σ73, hc, h⟩ := bd2_some h
  refine am_callv_i0 X dX7_figures_73 cw_X7_98 (ct_X7_here hG N _ _ hc) (Nat.le_of_ble_eq_true rfl) rfl rfl rfl rfl (Nat.le_of_ble_eq_true rfl) ?_
  refine am_iadd X dX7_figures_76 ?_
  refine am_bipush (v := (48 : Int32)) X dX7_figures_77 (by decide) ?_
  refine am_isub X dX7_figures_79 ?_
  refine am_topi h (fun x1_80 h => ?_)
  refine am_istore_n (ls' := [some (.ref 60), some (.int x1_80), some (.int x2)]) X dX7_figures_80 rfl (by decide)  rfl rfl ?_
  refine am_aload_n X dX7_figures_81 rfl rfl ?_
  refine am_dup X dX7_figures_82 rfl ?_
  refine am_getf (v := .int (rg σ73 60 5)) X dX7_figures_83 fl_X7_88 rfl rfl (by decide) ?_
  refine am_iconst (v := (1 : Int32)) X dX7_figures_86 (by decide) ?_
  refine am_iadd X dX7_figures_87 ?_
  refine am_putfi X dX7_figures_88 fp_X7_88 rfl rfl ?_
  refine am_tops h (fun σ88 h => ?_)
  refine am_iinc (ls' := fun x2_91 => [some (.ref 60), some (.int x1_80), some (.int x2_91)]) X dX7_figures_91 rfl h (by decide) (by decide) rfl (fun _ => rfl) (fun x2_91 h => ?_)
  refine am_goto (tgt := 34) X dX7_figures_94 (by decide) ?_
  exact am_jump (hk34 _ _ _ _ h K h0 X) rfl ⟨rfl, rfl, rfl, trivial⟩
set_option maxRecDepth 100000 in
set_option maxHeartbeats 4000000 in
theorem t_X7_figures_34b {G : Cx} (hG : am_G G) (N : Nat) (k34 : Int32 → Int32 → Sg → Option (Int32 × Sg)) (hk34 : ∀ (x1 : Int32) (x2 : Int32) (σ : Sg) (r : Int32 × Sg), k34 x1 x2 σ = some r → am_Wp G mX7_figures 1 (am_qi r.1 r.2) 34 [some (.ref 60), some (.int x1), some (.int x2)] [] σ) (x1 : Int32) (x2 : Int32) (σ : Sg) (r : Int32 × Sg) (h : b_X7_figures_34b N k34 x1 x2 σ = some r) : am_Wp G mX7_figures 1 (am_qi r.1 r.2) 34 [some (.ref 60), some (.int x1), some (.int x2)] [] σ := by
  intro K h0 X
  unfold b_X7_figures_34b at h
  refine am_iload_n X dX7_figures_34 rfl rfl ?_
  refine am_iconst (v := (2 : Int32)) X dX7_figures_35 (by decide) ?_
  refine am_icmp_ge (tgt := 97) X dX7_figures_36 (by decide) (fun c => ?_) (fun c => ?_)
  · have h := if_t h c
    refine am_iload_n X dX7_figures_97 rfl rfl ?_
    obtain rfl := Option.some.inj h
    exact am_iret X h0 dX7_figures_98 rfl ⟨rfl, rfl⟩
  · have h := if_f h c
    refine am_aload_n X dX7_figures_39 rfl rfl ?_
    refine am_getf (v := .int (rg σ 60 7)) X dX7_figures_40 fl_X7_94 rfl rfl (by decide) ?_
    refine am_if_ne (tgt := 97) X dX7_figures_43 (by decide) (fun c => ?_) (fun c => ?_)
    · have h := if_f h c
      refine am_iload_n X dX7_figures_97 rfl rfl ?_
      obtain rfl := Option.some.inj h
      exact am_iret X h0 dX7_figures_98 rfl ⟨rfl, rfl⟩
    · have h := if_t h c
      refine am_aload_n X dX7_figures_46 rfl rfl ?_
      obtain ⟨v47, σ47, hc, h⟩ := bd2_some h
      refine am_callv_i0 X dX7_figures_47 cw_X7_98 (ct_X7_here hG N _ _ hc) (Nat.le_of_ble_eq_true rfl) rfl rfl rfl rfl (Nat.le_of_ble_eq_true rfl) ?_
      refine am_bipush (v := (48 : Int32)) X dX7_figures_50 (by decide) ?_
      refine am_bipush (v := (57 : Int32)) X dX7_figures_52 (by decide) ?_
      obtain ⟨v54, σ54, hc, h⟩ := bd2_some h
      refine am_calls_i3 X dX7_figures_54 cw_X7_84 (ct_X7_in hG N _ _ _ _ _ hc) (Nat.le_of_ble_eq_true rfl) rfl (Nat.le_of_ble_eq_true rfl) ?_
      refine am_if_eq (tgt := 97) X dX7_figures_57 (by decide) (fun c => ?_) (fun c => ?_)
      · have h := if_t h c
        refine am_iload_n X dX7_figures_97 rfl rfl ?_
        obtain rfl := Option.some.inj h
        exact am_iret X h0 dX7_figures_98 rfl ⟨rfl, rfl⟩
      · have h := if_f h c
        refine am_iload_n X dX7_figures_60 rfl rfl ?_
        refine am_if_eq (tgt := 68) X dX7_figures_61 (by decide) (fun c => ?_) (fun c => ?_)
        · have h := if_t h c
          exact am_jump (t_X7_figures_68 hG N k34 hk34 _ _ _ _ h K h0 X) rfl ⟨rfl, rfl, rfl, trivial⟩
        · have h := if_f h c
          refine am_iload_n X dX7_figures_64 rfl rfl ?_
          refine am_if_le (tgt := 97) X dX7_figures_65 (by decide) (fun c => ?_) (fun c => ?_)
          · have h := if_t h c
            refine am_iload_n X dX7_figures_97 rfl rfl ?_
            obtain rfl := Option.some.inj h
            exact am_iret X h0 dX7_figures_98 rfl ⟨rfl, rfl⟩
          · have h := if_f h c
            exact am_jump (t_X7_figures_68 hG N k34 hk34 _ _ _ _ h K h0 X) rfl ⟨rfl, rfl, rfl, trivial⟩
set_option maxRecDepth 100000 in
set_option maxHeartbeats 4000000 in
theorem t_X7_figures_34 {G : Cx} (hG : am_G G) (N : Nat) : ∀ (n : Nat) (x1 : Int32) (x2 : Int32) (σ : Sg) (r : Int32 × Sg), b_X7_figures_34 N n x1 x2 σ = some r → am_Wp G mX7_figures 1 (am_qi r.1 r.2) 34 [some (.ref 60), some (.int x1), some (.int x2)] [] σ := by
  intro n
  induction n with
  | zero => intro x1 x2 σ r h; cases h
  | succ n ih => intro x1 x2 σ r h; exact t_X7_figures_34b hG N (b_X7_figures_34 N n) ih x1 x2 σ r h
set_option maxRecDepth 100000 in
set_option maxHeartbeats 4000000 in
theorem t_X7_figures_27 {G : Cx} (hG : am_G G) (N : Nat) (s1 : Int32) (σ : Sg) (r : Int32 × Sg) (h : b_X7_figures_27 N s1 σ = some r) : am_Wp G mX7_figures 1 (am_qi r.1 r.2) 27 [some (.ref 60), none, none] [.int s1, .ref 60] σ := by
  intro K h0 X
  unfold b_X7_figures_27 at h
  obtain ⟨g, h⟩ := gd_some h
  refine am_putfz X dX7_figures_27 fp_X7_94 rfl rfl (nbz_eq g) ?_
  refine am_tops h (fun σ27 h => ?_)
  refine am_iconst (v := (0 : Int32)) X dX7_figures_30 (by decide) ?_
  refine am_istore_n (ls' := [some (.ref 60), some (.int (0 : Int32)), none]) X dX7_figures_31 rfl (by decide)  rfl rfl ?_
  refine am_iconst (v := (0 : Int32)) X dX7_figures_32 (by decide) ?_
  refine am_istore_n (ls' := [some (.ref 60), some (.int (0 : Int32)), some (.int (0 : Int32))]) X dX7_figures_33 rfl (by decide)  rfl rfl ?_
  exact am_jump (t_X7_figures_34 hG N N _ _ _ _ h K h0 X) rfl ⟨rfl, rfl, rfl, trivial⟩
set_option maxRecDepth 100000 in
set_option maxHeartbeats 4000000 in
theorem t_X7_figures_22 {G : Cx} (hG : am_G G) (N : Nat) (σ : Sg) (r : Int32 × Sg) (h : b_X7_figures_22 N σ = some r) : am_Wp G mX7_figures 1 (am_qi r.1 r.2) 22 [some (.ref 60), none, none] [.ref 60] σ := by
  intro K h0 X
  unfold b_X7_figures_22 at h
  refine am_iconst (v := (1 : Int32)) X dX7_figures_22 (by decide) ?_
  refine am_goto (tgt := 27) X dX7_figures_23 (by decide) ?_
  exact am_jump (t_X7_figures_27 hG N _ _ _ h K h0 X) rfl ⟨rfl, trivial⟩
set_option maxRecDepth 100000 in
set_option maxHeartbeats 4000000 in
theorem ct_X7_figures {G : Cx} (hG : am_G G) (N : Nat) (σ : Sg) (r : Int32 × Sg) (h : f_X7_figures N σ = some r) : am_Ct G 2 yX7_figures mX7_figures [.ref 60] σ (am_qi r.1 r.2) := by
  refine am_enter hG rfl rfl (Nat.le_of_ble_eq_true rfl) ?_
  intro K h0 X
  unfold f_X7_figures at h
  refine am_jump (pc' := 0) (ls' := [some (.ref 60), none, none]) ?_ rfl ⟨rfl, trivial⟩
  refine am_aload_n X dX7_figures_0 rfl rfl ?_
  refine am_aload_n X dX7_figures_1 rfl rfl ?_
  refine am_getf (v := .int (rg σ 60 7)) X dX7_figures_2 fl_X7_94 rfl rfl (by decide) ?_
  refine am_if_ne (tgt := 22) X dX7_figures_5 (by decide) (fun c => ?_) (fun c => ?_)
  · have h := if_f h c
    exact am_jump (t_X7_figures_22 hG N _ _ h K h0 X) rfl ⟨rfl, trivial⟩
  · have h := if_t h c
    refine am_aload_n X dX7_figures_8 rfl rfl ?_
    obtain ⟨v9, σ9, hc, h⟩ := bd2_some h
    refine am_callv_i0 X dX7_figures_9 cw_X7_98 (ct_X7_here hG N _ _ hc) (Nat.le_of_ble_eq_true rfl) rfl rfl rfl rfl (Nat.le_of_ble_eq_true rfl) ?_
    refine am_bipush (v := (48 : Int32)) X dX7_figures_12 (by decide) ?_
    refine am_bipush (v := (57 : Int32)) X dX7_figures_14 (by decide) ?_
    obtain ⟨v16, σ16, hc, h⟩ := bd2_some h
    refine am_calls_i3 X dX7_figures_16 cw_X7_84 (ct_X7_in hG N _ _ _ _ _ hc) (Nat.le_of_ble_eq_true rfl) rfl (Nat.le_of_ble_eq_true rfl) ?_
    refine am_if_ne (tgt := 26) X dX7_figures_19 (by decide) (fun c => ?_) (fun c => ?_)
    · have h := if_f h c
      refine am_iconst (v := (0 : Int32)) X dX7_figures_26 (by decide) ?_
      exact am_jump (t_X7_figures_27 hG N _ _ _ h K h0 X) rfl ⟨rfl, trivial⟩
    · have h := if_t h c
      exact am_jump (t_X7_figures_22 hG N _ _ h K h0 X) rfl ⟨rfl, trivial⟩
set_option maxRecDepth 100000 in
set_option maxHeartbeats 4000000 in
theorem ct_X7_emits {G : Cx} (hG : am_G G) (N : Nat) (x1 : Int32) (σ : Sg) (r : Sg) (h : f_X7_emits N x1 σ = some r) : am_Ct G 1 yX7_emits mX7_emits [.ref 60, .int x1] σ (am_qv r) := by
  refine am_enter hG rfl rfl (Nat.le_of_ble_eq_true rfl) ?_
  intro K h0 X
  unfold f_X7_emits at h
  refine am_jump (pc' := 0) (ls' := [some (.ref 60), some (.int x1)]) ?_ rfl ⟨rfl, rfl, trivial⟩
  refine am_aload_n X dX7_emits_0 rfl rfl ?_
  refine am_getf (v := .int (rg σ 60 7)) X dX7_emits_1 fl_X7_94 rfl rfl (by decide) ?_
  refine am_if_ne (tgt := 56) X dX7_emits_4 (by decide) (fun c => ?_) (fun c => ?_)
  · have h := if_f h c
    obtain rfl := Option.some.inj h
    exact am_vret X h0 dX7_emits_56 rfl ⟨rfl, rfl⟩
  · have h := if_t h c
    refine am_aload_n X dX7_emits_7 rfl rfl ?_
    refine am_getf (v := .ref 61) X dX7_emits_8 fl_X7_9 rfl rfl (by decide) ?_
    refine am_sipush (v := (206 : Int32)) X dX7_emits_11 (by decide) ?_
    refine am_sipush (v := (140 : Int32)) X dX7_emits_14 (by decide) ?_
    refine am_aload_n X dX7_emits_17 rfl rfl ?_
    refine am_getf (v := .int (rg σ 60 4)) X dX7_emits_18 fl_X7_115 rfl rfl (by decide) ?_
    refine am_imul X dX7_emits_21 ?_
    refine am_iadd X dX7_emits_22 ?_
    refine am_aload_n X dX7_emits_23 rfl rfl ?_
    refine am_getf (v := .ref 61) X dX7_emits_24 fl_X7_9 rfl rfl (by decide) ?_
    refine am_sipush (v := (201 : Int32)) X dX7_emits_27 (by decide) ?_
    refine am_aload_n X dX7_emits_30 rfl rfl ?_
    refine am_getf (v := .int (rg σ 60 4)) X dX7_emits_31 fl_X7_115 rfl rfl (by decide) ?_
    refine am_iadd X dX7_emits_34 ?_
    obtain ⟨g, h⟩ := gd_some h
    refine am_iald X dX7_emits_35 rfl g ?_
    refine am_iadd X dX7_emits_36 ?_
    refine am_iload_n X dX7_emits_37 rfl rfl ?_
    obtain ⟨g, h⟩ := gd_some h
    refine am_iast X dX7_emits_38 rfl g ?_
    refine am_tops h (fun σ38 h => ?_)
    refine am_aload_n X dX7_emits_39 rfl rfl ?_
    refine am_getf (v := .ref 61) X dX7_emits_40 fl_X7_9 rfl rfl (by decide) ?_
    refine am_sipush (v := (201 : Int32)) X dX7_emits_43 (by decide) ?_
    refine am_aload_n X dX7_emits_46 rfl rfl ?_
    refine am_getf (v := .int (rg σ38 60 4)) X dX7_emits_47 fl_X7_115 rfl rfl (by decide) ?_
    refine am_iadd X dX7_emits_50 ?_
    refine am_dup2 X dX7_emits_51 rfl rfl ?_
    obtain ⟨g, h⟩ := gd_some h
    refine am_iald X dX7_emits_52 rfl g ?_
    refine am_iconst (v := (1 : Int32)) X dX7_emits_53 (by decide) ?_
    refine am_iadd X dX7_emits_54 ?_
    obtain ⟨g, h⟩ := gd_some h
    refine am_iast X dX7_emits_55 rfl g ?_
    refine am_tops h (fun σ55 h => ?_)
    obtain rfl := Option.some.inj h
    exact am_vret X h0 dX7_emits_56 rfl ⟨rfl, rfl⟩
set_option maxRecDepth 100000 in
set_option maxHeartbeats 4000000 in
theorem t_X7_every_4b {G : Cx} (hG : am_G G) (N : Nat) (dk : Nat) (hdk : 10 ≤ dk) (kr : Sg → Option (Sg)) (hkr : ∀ (σ : Sg) (r : Sg), kr σ = some r → am_Ct G dk yX7_factor mX7_factor [.ref 60] σ (am_qv r)) (k4 : Sg → Option (Sg)) (hk4 : ∀ (σ : Sg) (r : Sg), k4 σ = some r → am_Wp G mX7_every dk (am_qv r) 4 [some (.ref 60)] [] σ) (σ : Sg) (r : Sg) (h : b_X7_every_4b N kr k4 σ = some r) : am_Wp G mX7_every dk (am_qv r) 4 [some (.ref 60)] [] σ := by
  intro K h0 X
  unfold b_X7_every_4b at h
  refine am_aload_n X dX7_every_4 rfl rfl ?_
  refine am_getf (v := .int (rg σ 60 7)) X dX7_every_5 fl_X7_94 rfl rfl (by decide) ?_
  refine am_if_ne (tgt := 43) X dX7_every_8 (by decide) (fun c => ?_) (fun c => ?_)
  · have h := if_f h c
    obtain rfl := Option.some.inj h
    exact am_vret X h0 dX7_every_43 rfl ⟨rfl, rfl⟩
  · have h := if_t h c
    refine am_aload_n X dX7_every_11 rfl rfl ?_
    obtain ⟨v12, σ12, hc, h⟩ := bd2_some h
    refine am_callv_i0 X dX7_every_12 cw_X7_98 (ct_X7_here hG N _ _ hc) (by omega) rfl rfl rfl rfl (Nat.le_of_ble_eq_true rfl) ?_
    refine am_bipush (v := (38 : Int32)) X dX7_every_15 (by decide) ?_
    refine am_icmp_ne (tgt := 43) X dX7_every_17 (by decide) (fun c => ?_) (fun c => ?_)
    · have h := if_f h c
      obtain rfl := Option.some.inj h
      exact am_vret X h0 dX7_every_43 rfl ⟨rfl, rfl⟩
    · have h := if_t h c
      refine am_aload_n X dX7_every_20 rfl rfl ?_
      refine am_dup X dX7_every_21 rfl ?_
      refine am_getf (v := .int (rg σ12 60 5)) X dX7_every_22 fl_X7_88 rfl rfl (by decide) ?_
      refine am_iconst (v := (1 : Int32)) X dX7_every_25 (by decide) ?_
      refine am_iadd X dX7_every_26 ?_
      refine am_putfi X dX7_every_27 fp_X7_88 rfl rfl ?_
      refine am_tops h (fun σ27 h => ?_)
      refine am_aload_n X dX7_every_30 rfl rfl ?_
      obtain ⟨σ31, hc, h⟩ := bd_some h
      refine am_callv_v0 X dX7_every_31 cw_X7_121 (hkr _ _ hc) (by omega) rfl rfl rfl rfl (Nat.le_of_ble_eq_true rfl) ?_
      refine am_aload_n X dX7_every_34 rfl rfl ?_
      refine am_bipush (v := (-2 : Int32)) X dX7_every_35 (by decide) ?_
      obtain ⟨σ37, hc, h⟩ := bd_some h
      refine am_callv_v1 X dX7_every_37 cw_X7_124 (ct_X7_emits hG N _ _ _ hc) (by omega) rfl rfl rfl rfl (Nat.le_of_ble_eq_true rfl) ?_
      refine am_goto (tgt := 4) X dX7_every_40 (by decide) ?_
      exact am_jump (hk4 _ _ h K h0 X) rfl ⟨rfl, trivial⟩
set_option maxRecDepth 100000 in
set_option maxHeartbeats 4000000 in
theorem t_X7_every_4 {G : Cx} (hG : am_G G) (N : Nat) (dk : Nat) (hdk : 10 ≤ dk) (kr : Sg → Option (Sg)) (hkr : ∀ (σ : Sg) (r : Sg), kr σ = some r → am_Ct G dk yX7_factor mX7_factor [.ref 60] σ (am_qv r)) : ∀ (n : Nat) (σ : Sg) (r : Sg), b_X7_every_4 N kr n σ = some r → am_Wp G mX7_every dk (am_qv r) 4 [some (.ref 60)] [] σ := by
  intro n
  induction n with
  | zero => intro  σ r h; cases h
  | succ n ih => intro  σ r h; exact t_X7_every_4b hG N dk hdk kr hkr (b_X7_every_4 N kr n) ih  σ r h
set_option maxRecDepth 100000 in
set_option maxHeartbeats 4000000 in
theorem ct_X7_every {G : Cx} (hG : am_G G) (N : Nat) (dk : Nat) (hdk : 10 ≤ dk) (kr : Sg → Option (Sg)) (hkr : ∀ (σ : Sg) (r : Sg), kr σ = some r → am_Ct G dk yX7_factor mX7_factor [.ref 60] σ (am_qv r)) (σ : Sg) (r : Sg) (h : f_X7_every N kr σ = some r) : am_Ct G (dk + 1) yX7_every mX7_every [.ref 60] σ (am_qv r) := by
  refine am_enter hG rfl rfl (Nat.le_of_ble_eq_true rfl) ?_
  intro K h0 X
  unfold f_X7_every at h
  refine am_jump (pc' := 0) (ls' := [some (.ref 60)]) ?_ rfl ⟨rfl, trivial⟩
  refine am_aload_n X dX7_every_0 rfl rfl ?_
  obtain ⟨σ1, hc, h⟩ := bd_some h
  refine am_callv_v0 X dX7_every_1 cw_X7_121 (hkr _ _ hc) (by omega) rfl rfl rfl rfl (Nat.le_of_ble_eq_true rfl) ?_
  exact am_jump (t_X7_every_4 hG N dk hdk kr hkr N _ _ h K h0 X) rfl ⟨rfl, trivial⟩
set_option maxRecDepth 100000 in
set_option maxHeartbeats 4000000 in
theorem t_X7_some_4b {G : Cx} (hG : am_G G) (N : Nat) (dk : Nat) (hdk : 10 ≤ dk) (kr : Sg → Option (Sg)) (hkr : ∀ (σ : Sg) (r : Sg), kr σ = some r → am_Ct G dk yX7_factor mX7_factor [.ref 60] σ (am_qv r)) (k4 : Sg → Option (Sg)) (hk4 : ∀ (σ : Sg) (r : Sg), k4 σ = some r → am_Wp G mX7_some (dk + 1) (am_qv r) 4 [some (.ref 60)] [] σ) (σ : Sg) (r : Sg) (h : b_X7_some_4b N kr k4 σ = some r) : am_Wp G mX7_some (dk + 1) (am_qv r) 4 [some (.ref 60)] [] σ := by
  intro K h0 X
  unfold b_X7_some_4b at h
  refine am_aload_n X dX7_some_4 rfl rfl ?_
  refine am_getf (v := .int (rg σ 60 7)) X dX7_some_5 fl_X7_94 rfl rfl (by decide) ?_
  refine am_if_ne (tgt := 43) X dX7_some_8 (by decide) (fun c => ?_) (fun c => ?_)
  · have h := if_f h c
    obtain rfl := Option.some.inj h
    exact am_vret X h0 dX7_some_43 rfl ⟨rfl, rfl⟩
  · have h := if_t h c
    refine am_aload_n X dX7_some_11 rfl rfl ?_
    obtain ⟨v12, σ12, hc, h⟩ := bd2_some h
    refine am_callv_i0 X dX7_some_12 cw_X7_98 (ct_X7_here hG N _ _ hc) (by omega) rfl rfl rfl rfl (Nat.le_of_ble_eq_true rfl) ?_
    refine am_bipush (v := (124 : Int32)) X dX7_some_15 (by decide) ?_
    refine am_icmp_ne (tgt := 43) X dX7_some_17 (by decide) (fun c => ?_) (fun c => ?_)
    · have h := if_f h c
      obtain rfl := Option.some.inj h
      exact am_vret X h0 dX7_some_43 rfl ⟨rfl, rfl⟩
    · have h := if_t h c
      refine am_aload_n X dX7_some_20 rfl rfl ?_
      refine am_dup X dX7_some_21 rfl ?_
      refine am_getf (v := .int (rg σ12 60 5)) X dX7_some_22 fl_X7_88 rfl rfl (by decide) ?_
      refine am_iconst (v := (1 : Int32)) X dX7_some_25 (by decide) ?_
      refine am_iadd X dX7_some_26 ?_
      refine am_putfi X dX7_some_27 fp_X7_88 rfl rfl ?_
      refine am_tops h (fun σ27 h => ?_)
      refine am_aload_n X dX7_some_30 rfl rfl ?_
      obtain ⟨σ31, hc, h⟩ := bd_some h
      refine am_callv_v0 X dX7_some_31 cw_X7_141 (ct_X7_every hG N dk hdk kr hkr _ _ hc) (by omega) rfl rfl rfl rfl (Nat.le_of_ble_eq_true rfl) ?_
      refine am_aload_n X dX7_some_34 rfl rfl ?_
      refine am_bipush (v := (-3 : Int32)) X dX7_some_35 (by decide) ?_
      obtain ⟨σ37, hc, h⟩ := bd_some h
      refine am_callv_v1 X dX7_some_37 cw_X7_124 (ct_X7_emits hG N _ _ _ hc) (by omega) rfl rfl rfl rfl (Nat.le_of_ble_eq_true rfl) ?_
      refine am_goto (tgt := 4) X dX7_some_40 (by decide) ?_
      exact am_jump (hk4 _ _ h K h0 X) rfl ⟨rfl, trivial⟩
set_option maxRecDepth 100000 in
set_option maxHeartbeats 4000000 in
theorem t_X7_some_4 {G : Cx} (hG : am_G G) (N : Nat) (dk : Nat) (hdk : 10 ≤ dk) (kr : Sg → Option (Sg)) (hkr : ∀ (σ : Sg) (r : Sg), kr σ = some r → am_Ct G dk yX7_factor mX7_factor [.ref 60] σ (am_qv r)) : ∀ (n : Nat) (σ : Sg) (r : Sg), b_X7_some_4 N kr n σ = some r → am_Wp G mX7_some (dk + 1) (am_qv r) 4 [some (.ref 60)] [] σ := by
  intro n
  induction n with
  | zero => intro  σ r h; cases h
  | succ n ih => intro  σ r h; exact t_X7_some_4b hG N dk hdk kr hkr (b_X7_some_4 N kr n) ih  σ r h
set_option maxRecDepth 100000 in
set_option maxHeartbeats 4000000 in
theorem ct_X7_some {G : Cx} (hG : am_G G) (N : Nat) (dk : Nat) (hdk : 10 ≤ dk) (kr : Sg → Option (Sg)) (hkr : ∀ (σ : Sg) (r : Sg), kr σ = some r → am_Ct G dk yX7_factor mX7_factor [.ref 60] σ (am_qv r)) (σ : Sg) (r : Sg) (h : f_X7_some N kr σ = some r) : am_Ct G (dk + 2) yX7_some mX7_some [.ref 60] σ (am_qv r) := by
  refine am_enter hG rfl rfl (Nat.le_of_ble_eq_true rfl) ?_
  intro K h0 X
  unfold f_X7_some at h
  refine am_jump (pc' := 0) (ls' := [some (.ref 60)]) ?_ rfl ⟨rfl, trivial⟩
  refine am_aload_n X dX7_some_0 rfl rfl ?_
  obtain ⟨σ1, hc, h⟩ := bd_some h
  refine am_callv_v0 X dX7_some_1 cw_X7_141 (ct_X7_every hG N dk hdk kr hkr _ _ hc) (by omega) rfl rfl rfl rfl (Nat.le_of_ble_eq_true rfl) ?_
  exact am_jump (t_X7_some_4 hG N dk hdk kr hkr N _ _ h K h0 X) rfl ⟨rfl, trivial⟩
set_option maxRecDepth 100000 in
set_option maxHeartbeats 4000000 in
theorem t_X7_among_2b {G : Cx} (hG : am_G G) (N : Nat) (k2 : Int32 → Sg → Option (Int32 × Sg)) (hk2 : ∀ (x2 : Int32) (σ : Sg) (r : Int32 × Sg), k2 x2 σ = some r → am_Wp G mX7_among 4 (am_qi r.1 r.2) 2 [some (.ref 60), some (.ref 103), some (.int x2)] [] σ) (x2 : Int32) (σ : Sg) (r : Int32 × Sg) (h : b_X7_among_2b N k2 x2 σ = some r) : am_Wp G mX7_among 4 (am_qi r.1 r.2) 2 [some (.ref 60), some (.ref 103), some (.int x2)] [] σ := by
  intro K h0 X
  unfold b_X7_among_2b at h
  refine am_iload_n X dX7_among_2 rfl rfl ?_
  refine am_aload_n X dX7_among_3 rfl rfl ?_
  refine am_strlen (i := 3) (v := (5 : Int32)) X hG dX7_among_4 cw_X7_102 ⟨by decide, rfl, by decide⟩ (Nat.le_of_ble_eq_true rfl) (Nat.le_of_ble_eq_true rfl) ?_
  refine am_icmp_ge (tgt := 40) X dX7_among_7 (by decide) (fun c => ?_) (fun c => ?_)
  · have h := if_t h c
    refine am_iconst (v := (-1 : Int32)) X dX7_among_40 (by decide) ?_
    obtain rfl := Option.some.inj h
    exact am_iret X h0 dX7_among_41 rfl ⟨rfl, rfl⟩
  · have h := if_f h c
    refine am_aload_n X dX7_among_10 rfl rfl ?_
    obtain ⟨v11, σ11, hc, h⟩ := bd2_some h
    refine am_callv_i0 X dX7_among_11 cw_X7_98 (ct_X7_here hG N _ _ hc) (Nat.le_of_ble_eq_true rfl) rfl rfl rfl rfl (Nat.le_of_ble_eq_true rfl) ?_
    refine am_aload_n X dX7_among_14 rfl rfl ?_
    refine am_iload_n X dX7_among_15 rfl rfl ?_
    obtain ⟨g, h⟩ := gd_some h
    refine am_charAt (i := 3) X hG dX7_among_16 cw_X7_107 ⟨by decide, rfl, rfl⟩ g (Nat.le_of_ble_eq_true rfl) (Nat.le_of_ble_eq_true rfl) ?_
    refine am_icmp_ne (tgt := 34) X dX7_among_19 (by decide) (fun c => ?_) (fun c => ?_)
    · have h := if_f h c
      refine am_iinc (ls' := fun x2_34 => [some (.ref 60), some (.ref 103), some (.int x2_34)]) X dX7_among_34 rfl h (by decide) (by decide) rfl (fun _ => rfl) (fun x2_34 h => ?_)
      refine am_goto (tgt := 2) X dX7_among_37 (by decide) ?_
      exact am_jump (hk2 _ _ _ h K h0 X) rfl ⟨rfl, rfl, rfl, trivial⟩
    · have h := if_t h c
      refine am_aload_n X dX7_among_22 rfl rfl ?_
      refine am_dup X dX7_among_23 rfl ?_
      refine am_getf (v := .int (rg σ11 60 5)) X dX7_among_24 fl_X7_88 rfl rfl (by decide) ?_
      refine am_iconst (v := (1 : Int32)) X dX7_among_27 (by decide) ?_
      refine am_iadd X dX7_among_28 ?_
      refine am_putfi X dX7_among_29 fp_X7_88 rfl rfl ?_
      refine am_tops h (fun σ29 h => ?_)
      refine am_iload_n X dX7_among_32 rfl rfl ?_
      obtain rfl := Option.some.inj h
      exact am_iret X h0 dX7_among_33 rfl ⟨rfl, rfl⟩
set_option maxRecDepth 100000 in
set_option maxHeartbeats 4000000 in
theorem t_X7_among_2 {G : Cx} (hG : am_G G) (N : Nat) : ∀ (n : Nat) (x2 : Int32) (σ : Sg) (r : Int32 × Sg), b_X7_among_2 N n x2 σ = some r → am_Wp G mX7_among 4 (am_qi r.1 r.2) 2 [some (.ref 60), some (.ref 103), some (.int x2)] [] σ := by
  intro n
  induction n with
  | zero => intro x2 σ r h; cases h
  | succ n ih => intro x2 σ r h; exact t_X7_among_2b hG N (b_X7_among_2 N n) ih x2 σ r h
set_option maxRecDepth 100000 in
set_option maxHeartbeats 4000000 in
theorem ct_X7_among {G : Cx} (hG : am_G G) (N : Nat) (σ : Sg) (r : Int32 × Sg) (h : f_X7_among N σ = some r) : am_Ct G 5 yX7_among mX7_among [.ref 60, .ref 103] σ (am_qi r.1 r.2) := by
  refine am_enter hG rfl rfl (Nat.le_of_ble_eq_true rfl) ?_
  intro K h0 X
  unfold f_X7_among at h
  refine am_jump (pc' := 0) (ls' := [some (.ref 60), some (.ref 103), none]) ?_ rfl ⟨rfl, rfl, trivial⟩
  refine am_iconst (v := (0 : Int32)) X dX7_among_0 (by decide) ?_
  refine am_istore_n (ls' := [some (.ref 60), some (.ref 103), some (.int (0 : Int32))]) X dX7_among_1 rfl (by decide)  rfl rfl ?_
  exact am_jump (t_X7_among_2 hG N N _ _ _ h K h0 X) rfl ⟨rfl, rfl, rfl, trivial⟩
set_option maxRecDepth 100000 in
set_option maxHeartbeats 4000000 in
theorem t_X7_among_v1_2b {G : Cx} (hG : am_G G) (N : Nat) (k2 : Int32 → Sg → Option (Int32 × Sg)) (hk2 : ∀ (x2 : Int32) (σ : Sg) (r : Int32 × Sg), k2 x2 σ = some r → am_Wp G mX7_among 4 (am_qi r.1 r.2) 2 [some (.ref 60), some (.ref 104), some (.int x2)] [] σ) (x2 : Int32) (σ : Sg) (r : Int32 × Sg) (h : b_X7_among_v1_2b N k2 x2 σ = some r) : am_Wp G mX7_among 4 (am_qi r.1 r.2) 2 [some (.ref 60), some (.ref 104), some (.int x2)] [] σ := by
  intro K h0 X
  unfold b_X7_among_v1_2b at h
  refine am_iload_n X dX7_among_2 rfl rfl ?_
  refine am_aload_n X dX7_among_3 rfl rfl ?_
  refine am_strlen (i := 4) (v := (3 : Int32)) X hG dX7_among_4 cw_X7_102 ⟨by decide, rfl, by decide⟩ (Nat.le_of_ble_eq_true rfl) (Nat.le_of_ble_eq_true rfl) ?_
  refine am_icmp_ge (tgt := 40) X dX7_among_7 (by decide) (fun c => ?_) (fun c => ?_)
  · have h := if_t h c
    refine am_iconst (v := (-1 : Int32)) X dX7_among_40 (by decide) ?_
    obtain rfl := Option.some.inj h
    exact am_iret X h0 dX7_among_41 rfl ⟨rfl, rfl⟩
  · have h := if_f h c
    refine am_aload_n X dX7_among_10 rfl rfl ?_
    obtain ⟨v11, σ11, hc, h⟩ := bd2_some h
    refine am_callv_i0 X dX7_among_11 cw_X7_98 (ct_X7_here hG N _ _ hc) (Nat.le_of_ble_eq_true rfl) rfl rfl rfl rfl (Nat.le_of_ble_eq_true rfl) ?_
    refine am_aload_n X dX7_among_14 rfl rfl ?_
    refine am_iload_n X dX7_among_15 rfl rfl ?_
    obtain ⟨g, h⟩ := gd_some h
    refine am_charAt (i := 4) X hG dX7_among_16 cw_X7_107 ⟨by decide, rfl, rfl⟩ g (Nat.le_of_ble_eq_true rfl) (Nat.le_of_ble_eq_true rfl) ?_
    refine am_icmp_ne (tgt := 34) X dX7_among_19 (by decide) (fun c => ?_) (fun c => ?_)
    · have h := if_f h c
      refine am_iinc (ls' := fun x2_34 => [some (.ref 60), some (.ref 104), some (.int x2_34)]) X dX7_among_34 rfl h (by decide) (by decide) rfl (fun _ => rfl) (fun x2_34 h => ?_)
      refine am_goto (tgt := 2) X dX7_among_37 (by decide) ?_
      exact am_jump (hk2 _ _ _ h K h0 X) rfl ⟨rfl, rfl, rfl, trivial⟩
    · have h := if_t h c
      refine am_aload_n X dX7_among_22 rfl rfl ?_
      refine am_dup X dX7_among_23 rfl ?_
      refine am_getf (v := .int (rg σ11 60 5)) X dX7_among_24 fl_X7_88 rfl rfl (by decide) ?_
      refine am_iconst (v := (1 : Int32)) X dX7_among_27 (by decide) ?_
      refine am_iadd X dX7_among_28 ?_
      refine am_putfi X dX7_among_29 fp_X7_88 rfl rfl ?_
      refine am_tops h (fun σ29 h => ?_)
      refine am_iload_n X dX7_among_32 rfl rfl ?_
      obtain rfl := Option.some.inj h
      exact am_iret X h0 dX7_among_33 rfl ⟨rfl, rfl⟩
set_option maxRecDepth 100000 in
set_option maxHeartbeats 4000000 in
theorem t_X7_among_v1_2 {G : Cx} (hG : am_G G) (N : Nat) : ∀ (n : Nat) (x2 : Int32) (σ : Sg) (r : Int32 × Sg), b_X7_among_v1_2 N n x2 σ = some r → am_Wp G mX7_among 4 (am_qi r.1 r.2) 2 [some (.ref 60), some (.ref 104), some (.int x2)] [] σ := by
  intro n
  induction n with
  | zero => intro x2 σ r h; cases h
  | succ n ih => intro x2 σ r h; exact t_X7_among_v1_2b hG N (b_X7_among_v1_2 N n) ih x2 σ r h
set_option maxRecDepth 100000 in
set_option maxHeartbeats 4000000 in
theorem ct_X7_among_v1 {G : Cx} (hG : am_G G) (N : Nat) (σ : Sg) (r : Int32 × Sg) (h : f_X7_among_v1 N σ = some r) : am_Ct G 5 yX7_among mX7_among [.ref 60, .ref 104] σ (am_qi r.1 r.2) := by
  refine am_enter hG rfl rfl (Nat.le_of_ble_eq_true rfl) ?_
  intro K h0 X
  unfold f_X7_among_v1 at h
  refine am_jump (pc' := 0) (ls' := [some (.ref 60), some (.ref 104), none]) ?_ rfl ⟨rfl, rfl, trivial⟩
  refine am_iconst (v := (0 : Int32)) X dX7_among_0 (by decide) ?_
  refine am_istore_n (ls' := [some (.ref 60), some (.ref 104), some (.int (0 : Int32))]) X dX7_among_1 rfl (by decide)  rfl rfl ?_
  exact am_jump (t_X7_among_v1_2 hG N N _ _ _ h K h0 X) rfl ⟨rfl, rfl, rfl, trivial⟩
set_option maxRecDepth 100000 in
set_option maxHeartbeats 4000000 in
theorem t_X7_factor_101 {G : Cx} (hG : am_G G) (N : Nat) (dk : Nat) (hdk : 10 ≤ dk) (kr : Sg → Option (Sg)) (hkr : ∀ (σ : Sg) (r : Sg), kr σ = some r → am_Ct G dk yX7_factor mX7_factor [.ref 60] σ (am_qv r)) (σ : Sg) (r : Sg) (h : b_X7_factor_101 N kr σ = some r) : am_Wp G mX7_factor (dk + 2) (am_qv r) 101 [some (.ref 60), none, none, none, none] [] σ := by
  intro K h0 X
  unfold b_X7_factor_101 at h
  refine am_aload_n X dX7_factor_101 rfl rfl ?_
  refine am_dup X dX7_factor_102 rfl ?_
  refine am_getf (v := .int (rg σ 60 8)) X dX7_factor_103 fl_X7_118 rfl rfl (by decide) ?_
  refine am_iconst (v := (1 : Int32)) X dX7_factor_106 (by decide) ?_
  refine am_isub X dX7_factor_107 ?_
  refine am_putfi X dX7_factor_108 fp_X7_118 rfl rfl ?_
  refine am_tops h (fun σ108 h => ?_)
  obtain rfl := Option.some.inj h
  exact am_vret X h0 dX7_factor_111 rfl ⟨rfl, rfl⟩
set_option maxRecDepth 100000 in
set_option maxHeartbeats 4000000 in
theorem t_X7_factor_69 {G : Cx} (hG : am_G G) (N : Nat) (dk : Nat) (hdk : 10 ≤ dk) (kr : Sg → Option (Sg)) (hkr : ∀ (σ : Sg) (r : Sg), kr σ = some r → am_Ct G dk yX7_factor mX7_factor [.ref 60] σ (am_qv r)) (x1 : Int32) (s1 : Int32) (s2 : Int32) (σ : Sg) (r : Sg) (h : b_X7_factor_69 N kr x1 s1 s2 σ = some r) : am_Wp G mX7_factor (dk + 2) (am_qv r) 69 [some (.ref 60), some (.int x1), none, none, none] [.int s2, .int s1, .ref 60] σ := by
  intro K h0 X
  unfold b_X7_factor_69 at h
  refine am_iadd X dX7_factor_69 ?_
  refine am_putfi X dX7_factor_70 fp_X7_88 rfl rfl ?_
  refine am_tops h (fun σ70 h => ?_)
  refine am_iload_n X dX7_factor_73 rfl rfl ?_
  refine am_bipush (v := (33 : Int32)) X dX7_factor_74 (by decide) ?_
  refine am_icmp_ne (tgt := 91) X dX7_factor_76 (by decide) (fun c => ?_) (fun c => ?_)
  · have h := if_f h c
    refine am_aload_n X dX7_factor_91 rfl rfl ?_
    obtain ⟨σ92, hc, h⟩ := bd_some h
    refine am_callv_v0 X dX7_factor_92 cw_X7_127 (ct_X7_some hG N dk hdk kr hkr _ _ hc) (by omega) rfl rfl rfl rfl (Nat.le_of_ble_eq_true rfl) ?_
    refine am_aload_n X dX7_factor_95 rfl rfl ?_
    refine am_bipush (v := (41 : Int32)) X dX7_factor_96 (by decide) ?_
    obtain ⟨σ98, hc, h⟩ := bd_some h
    refine am_callv_v1 X dX7_factor_98 cw_X7_111 (ct_X7_must hG N _ _ _ hc) (by omega) rfl rfl rfl rfl (Nat.le_of_ble_eq_true rfl) ?_
    exact am_jump (t_X7_factor_101 hG N dk hdk kr hkr _ _ h K h0 X) rfl ⟨rfl, trivial⟩
  · have h := if_t h c
    refine am_aload_n X dX7_factor_79 rfl rfl ?_
    obtain ⟨σ80, hc, h⟩ := bd_some h
    refine am_callv_v0 X dX7_factor_80 cw_X7_121 (hkr _ _ hc) (by omega) rfl rfl rfl rfl (Nat.le_of_ble_eq_true rfl) ?_
    refine am_aload_n X dX7_factor_83 rfl rfl ?_
    refine am_iconst (v := (-1 : Int32)) X dX7_factor_84 (by decide) ?_
    obtain ⟨σ85, hc, h⟩ := bd_some h
    refine am_callv_v1 X dX7_factor_85 cw_X7_124 (ct_X7_emits hG N _ _ _ hc) (by omega) rfl rfl rfl rfl (Nat.le_of_ble_eq_true rfl) ?_
    refine am_goto (tgt := 101) X dX7_factor_88 (by decide) ?_
    exact am_jump (t_X7_factor_101 hG N dk hdk kr hkr _ _ h K h0 X) rfl ⟨rfl, trivial⟩
set_option maxRecDepth 100000 in
set_option maxHeartbeats 4000000 in
theorem t_X7_factor_39 {G : Cx} (hG : am_G G) (N : Nat) (dk : Nat) (hdk : 10 ≤ dk) (kr : Sg → Option (Sg)) (hkr : ∀ (σ : Sg) (r : Sg), kr σ = some r → am_Ct G dk yX7_factor mX7_factor [.ref 60] σ (am_qv r)) (x1 : Int32) (s1 : Int32) (σ : Sg) (r : Sg) (h : b_X7_factor_39 N kr x1 s1 σ = some r) : am_Wp G mX7_factor (dk + 2) (am_qv r) 39 [some (.ref 60), some (.int x1), none, none, none] [.int s1, .ref 60] σ := by
  intro K h0 X
  unfold b_X7_factor_39 at h
  obtain ⟨g, h⟩ := gd_some h
  refine am_putfz X dX7_factor_39 fp_X7_94 rfl rfl (nbz_eq g) ?_
  refine am_tops h (fun σ39 h => ?_)
  refine am_aload_n X dX7_factor_42 rfl rfl ?_
  refine am_dup X dX7_factor_43 rfl ?_
  refine am_getf (v := .int (rg σ39 60 8)) X dX7_factor_44 fl_X7_118 rfl rfl (by decide) ?_
  refine am_iconst (v := (1 : Int32)) X dX7_factor_47 (by decide) ?_
  refine am_iadd X dX7_factor_48 ?_
  refine am_putfi X dX7_factor_49 fp_X7_118 rfl rfl ?_
  refine am_tops h (fun σ49 h => ?_)
  refine am_aload_n X dX7_factor_52 rfl rfl ?_
  refine am_dup X dX7_factor_53 rfl ?_
  refine am_getf (v := .int (rg σ49 60 5)) X dX7_factor_54 fl_X7_88 rfl rfl (by decide) ?_
  refine am_aload_n X dX7_factor_57 rfl rfl ?_
  refine am_getf (v := .int (rg σ49 60 7)) X dX7_factor_58 fl_X7_94 rfl rfl (by decide) ?_
  refine am_if_eq (tgt := 68) X dX7_factor_61 (by decide) (fun c => ?_) (fun c => ?_)
  · have h := if_t h c
    refine am_iconst (v := (1 : Int32)) X dX7_factor_68 (by decide) ?_
    exact am_jump (t_X7_factor_69 hG N dk hdk kr hkr _ _ _ _ _ h K h0 X) rfl ⟨rfl, rfl, trivial⟩
  · have h := if_f h c
    refine am_iconst (v := (0 : Int32)) X dX7_factor_64 (by decide) ?_
    refine am_goto (tgt := 69) X dX7_factor_65 (by decide) ?_
    exact am_jump (t_X7_factor_69 hG N dk hdk kr hkr _ _ _ _ _ h K h0 X) rfl ⟨rfl, rfl, trivial⟩
set_option maxRecDepth 100000 in
set_option maxHeartbeats 4000000 in
theorem t_X7_factor_25 {G : Cx} (hG : am_G G) (N : Nat) (dk : Nat) (hdk : 10 ≤ dk) (kr : Sg → Option (Sg)) (hkr : ∀ (σ : Sg) (r : Sg), kr σ = some r → am_Ct G dk yX7_factor mX7_factor [.ref 60] σ (am_qv r)) (x1 : Int32) (σ : Sg) (r : Sg) (h : b_X7_factor_25 N kr x1 σ = some r) : am_Wp G mX7_factor (dk + 2) (am_qv r) 25 [some (.ref 60), some (.int x1), none, none, none] [] σ := by
  intro K h0 X
  unfold b_X7_factor_25 at h
  refine am_aload_n X dX7_factor_25 rfl rfl ?_
  refine am_aload_n X dX7_factor_26 rfl rfl ?_
  refine am_getf (v := .int (rg σ 60 8)) X dX7_factor_27 fl_X7_118 rfl rfl (by decide) ?_
  refine am_iconst (v := (5 : Int32)) X dX7_factor_30 (by decide) ?_
  refine am_icmp_ne (tgt := 38) X dX7_factor_31 (by decide) (fun c => ?_) (fun c => ?_)
  · have h := if_f h c
    refine am_iconst (v := (0 : Int32)) X dX7_factor_38 (by decide) ?_
    exact am_jump (t_X7_factor_39 hG N dk hdk kr hkr _ _ _ _ h K h0 X) rfl ⟨rfl, rfl, trivial⟩
  · have h := if_t h c
    refine am_iconst (v := (1 : Int32)) X dX7_factor_34 (by decide) ?_
    refine am_goto (tgt := 39) X dX7_factor_35 (by decide) ?_
    exact am_jump (t_X7_factor_39 hG N dk hdk kr hkr _ _ _ _ h K h0 X) rfl ⟨rfl, rfl, trivial⟩
set_option maxRecDepth 100000 in
set_option maxHeartbeats 4000000 in
theorem t_X7_factor_169 {G : Cx} (hG : am_G G) (N : Nat) (dk : Nat) (hdk : 10 ≤ dk) (kr : Sg → Option (Sg)) (hkr : ∀ (σ : Sg) (r : Sg), kr σ = some r → am_Ct G dk yX7_factor mX7_factor [.ref 60] σ (am_qv r)) (x2 : Int32) (x3 : Int32) (s1 : Int32) (σ : Sg) (r : Sg) (h : b_X7_factor_169 N kr x2 x3 s1 σ = some r) : am_Wp G mX7_factor (dk + 2) (am_qv r) 169 [some (.ref 60), none, some (.int x2), some (.int x3), none] [.int s1, .ref 60] σ := by
  intro K h0 X
  unfold b_X7_factor_169 at h
  obtain ⟨g, h⟩ := gd_some h
  refine am_putfz X dX7_factor_169 fp_X7_94 rfl rfl (nbz_eq g) ?_
  refine am_tops h (fun σ169 h => ?_)
  refine am_aload_n X dX7_factor_172 rfl rfl ?_
  obtain ⟨v173, σ173, hc, h⟩ := bd2_some h
  refine am_callv_i0 X dX7_factor_173 cw_X7_138 (ct_X7_figures hG N _ _ hc) (by omega) rfl rfl rfl rfl (Nat.le_of_ble_eq_true rfl) ?_
  refine am_istore (ls' := [some (.ref 60), none, some (.int x2), some (.int x3), some (.int v173)]) X dX7_factor_176 (by decide)  rfl rfl ?_
  refine am_aload_n X dX7_factor_178 rfl rfl ?_
  refine am_iload_n X dX7_factor_179 rfl rfl ?_
  refine am_bipush (v := (8 : Int32)) X dX7_factor_180 (by decide) ?_
  refine am_iload_n X dX7_factor_182 rfl rfl ?_
  refine am_imul X dX7_factor_183 ?_
  refine am_iadd X dX7_factor_184 ?_
  refine am_bipush (v := (32 : Int32)) X dX7_factor_185 (by decide) ?_
  refine am_iload X dX7_factor_187 rfl ?_
  refine am_imul X dX7_factor_189 ?_
  refine am_iadd X dX7_factor_190 ?_
  obtain ⟨σ191, hc, h⟩ := bd_some h
  refine am_callv_v1 X dX7_factor_191 cw_X7_124 (ct_X7_emits hG N _ _ _ hc) (by omega) rfl rfl rfl rfl (Nat.le_of_ble_eq_true rfl) ?_
  obtain rfl := Option.some.inj h
  exact am_vret X h0 dX7_factor_194 rfl ⟨rfl, rfl⟩
set_option maxRecDepth 100000 in
set_option maxHeartbeats 4000000 in
theorem t_X7_factor_164 {G : Cx} (hG : am_G G) (N : Nat) (dk : Nat) (hdk : 10 ≤ dk) (kr : Sg → Option (Sg)) (hkr : ∀ (σ : Sg) (r : Sg), kr σ = some r → am_Ct G dk yX7_factor mX7_factor [.ref 60] σ (am_qv r)) (x2 : Int32) (x3 : Int32) (σ : Sg) (r : Sg) (h : b_X7_factor_164 N kr x2 x3 σ = some r) : am_Wp G mX7_factor (dk + 2) (am_qv r) 164 [some (.ref 60), none, some (.int x2), some (.int x3), none] [.ref 60] σ := by
  intro K h0 X
  unfold b_X7_factor_164 at h
  refine am_iconst (v := (1 : Int32)) X dX7_factor_164 (by decide) ?_
  refine am_goto (tgt := 169) X dX7_factor_165 (by decide) ?_
  exact am_jump (t_X7_factor_169 hG N dk hdk kr hkr _ _ _ _ _ h K h0 X) rfl ⟨rfl, rfl, rfl, trivial⟩
set_option maxRecDepth 100000 in
set_option maxHeartbeats 4000000 in
theorem t_X7_factor_150 {G : Cx} (hG : am_G G) (N : Nat) (dk : Nat) (hdk : 10 ≤ dk) (kr : Sg → Option (Sg)) (hkr : ∀ (σ : Sg) (r : Sg), kr σ = some r → am_Ct G dk yX7_factor mX7_factor [.ref 60] σ (am_qv r)) (x2 : Int32) (s0 : Int32) (σ : Sg) (r : Sg) (h : b_X7_factor_150 N kr x2 s0 σ = some r) : am_Wp G mX7_factor (dk + 2) (am_qv r) 150 [some (.ref 60), none, some (.int x2), none, none] [.int s0] σ := by
  intro K h0 X
  unfold b_X7_factor_150 at h
  refine am_istore_n (ls' := [some (.ref 60), none, some (.int x2), some (.int s0), none]) X dX7_factor_150 rfl (by decide)  rfl rfl ?_
  refine am_aload_n X dX7_factor_151 rfl rfl ?_
  refine am_aload_n X dX7_factor_152 rfl rfl ?_
  refine am_getf (v := .int (rg σ 60 7)) X dX7_factor_153 fl_X7_94 rfl rfl (by decide) ?_
  refine am_if_ne (tgt := 164) X dX7_factor_156 (by decide) (fun c => ?_) (fun c => ?_)
  · have h := if_f h c
    exact am_jump (t_X7_factor_164 hG N dk hdk kr hkr _ _ _ _ h K h0 X) rfl ⟨rfl, rfl, rfl, trivial⟩
  · have h := if_t h c
    refine am_iload_n X dX7_factor_159 rfl rfl ?_
    refine am_iconst (v := (-1 : Int32)) X dX7_factor_160 (by decide) ?_
    refine am_icmp_ne (tgt := 168) X dX7_factor_161 (by decide) (fun c => ?_) (fun c => ?_)
    · have h := if_f h c
      refine am_iconst (v := (0 : Int32)) X dX7_factor_168 (by decide) ?_
      exact am_jump (t_X7_factor_169 hG N dk hdk kr hkr _ _ _ _ _ h K h0 X) rfl ⟨rfl, rfl, rfl, trivial⟩
    · have h := if_t h c
      exact am_jump (t_X7_factor_164 hG N dk hdk kr hkr _ _ _ _ h K h0 X) rfl ⟨rfl, rfl, rfl, trivial⟩
set_option maxRecDepth 100000 in
set_option maxHeartbeats 4000000 in
theorem t_X7_factor_130 {G : Cx} (hG : am_G G) (N : Nat) (dk : Nat) (hdk : 10 ≤ dk) (kr : Sg → Option (Sg)) (hkr : ∀ (σ : Sg) (r : Sg), kr σ = some r → am_Ct G dk yX7_factor mX7_factor [.ref 60] σ (am_qv r)) (x2 : Int32) (s1 : Int32) (σ : Sg) (r : Sg) (h : b_X7_factor_130 N kr x2 s1 σ = some r) : am_Wp G mX7_factor (dk + 2) (am_qv r) 130 [some (.ref 60), none, some (.int x2), none, none] [.int s1, .ref 60] σ := by
  intro K h0 X
  unfold b_X7_factor_130 at h
  obtain ⟨g, h⟩ := gd_some h
  refine am_putfz X dX7_factor_130 fp_X7_94 rfl rfl (nbz_eq g) ?_
  refine am_tops h (fun σ130 h => ?_)
  refine am_aload_n X dX7_factor_133 rfl rfl ?_
  refine am_getf (v := .int (rg σ130 60 7)) X dX7_factor_134 fl_X7_94 rfl rfl (by decide) ?_
  refine am_if_eq (tgt := 144) X dX7_factor_137 (by decide) (fun c => ?_) (fun c => ?_)
  · have h := if_t h c
    refine am_aload_n X dX7_factor_144 rfl rfl ?_
    refine am_ldcS (i := 4) (tx := "<=>") X dX7_factor_145 (by decide) ?_
    obtain ⟨v147, σ147, hc, h⟩ := bd2_some h
    refine am_callv_i1 X dX7_factor_147 cw_X7_132 (ct_X7_among_v1 hG N _ _ hc) (by omega) rfl rfl rfl rfl (Nat.le_of_ble_eq_true rfl) ?_
    exact am_jump (t_X7_factor_150 hG N dk hdk kr hkr _ _ _ _ h K h0 X) rfl ⟨rfl, rfl, trivial⟩
  · have h := if_f h c
    refine am_iconst (v := (0 : Int32)) X dX7_factor_140 (by decide) ?_
    refine am_goto (tgt := 150) X dX7_factor_141 (by decide) ?_
    exact am_jump (t_X7_factor_150 hG N dk hdk kr hkr _ _ _ _ h K h0 X) rfl ⟨rfl, rfl, trivial⟩
set_option maxRecDepth 100000 in
set_option maxHeartbeats 4000000 in
theorem ct_X7_factor_b {G : Cx} (hG : am_G G) (N : Nat) (dk : Nat) (hdk : 10 ≤ dk) (kr : Sg → Option (Sg)) (hkr : ∀ (σ : Sg) (r : Sg), kr σ = some r → am_Ct G dk yX7_factor mX7_factor [.ref 60] σ (am_qv r)) (σ : Sg) (r : Sg) (h : f_X7_factor_b N kr σ = some r) : am_Ct G (dk + 3) yX7_factor mX7_factor [.ref 60] σ (am_qv r) := by
  refine am_enter hG rfl rfl (Nat.le_of_ble_eq_true rfl) ?_
  intro K h0 X
  unfold f_X7_factor_b at h
  refine am_jump (pc' := 0) (ls' := [some (.ref 60), none, none, none, none]) ?_ rfl ⟨rfl, trivial⟩
  refine am_aload_n X dX7_factor_0 rfl rfl ?_
  refine am_getf (v := .int (rg σ 60 7)) X dX7_factor_1 fl_X7_94 rfl rfl (by decide) ?_
  refine am_if_eq (tgt := 8) X dX7_factor_4 (by decide) (fun c => ?_) (fun c => ?_)
  · have h := if_t h c
    refine am_aload_n X dX7_factor_8 rfl rfl ?_
    obtain ⟨v9, σ9, hc, h⟩ := bd2_some h
    refine am_callv_i0 X dX7_factor_9 cw_X7_98 (ct_X7_here hG N _ _ hc) (by omega) rfl rfl rfl rfl (Nat.le_of_ble_eq_true rfl) ?_
    refine am_istore_n (ls' := [some (.ref 60), some (.int v9), none, none, none]) X dX7_factor_12 rfl (by decide)  rfl rfl ?_
    refine am_iload_n X dX7_factor_13 rfl rfl ?_
    refine am_bipush (v := (33 : Int32)) X dX7_factor_14 (by decide) ?_
    refine am_icmp_eq (tgt := 25) X dX7_factor_16 (by decide) (fun c => ?_) (fun c => ?_)
    · have h := if_t h c
      exact am_jump (t_X7_factor_25 hG N dk hdk kr hkr _ _ _ h K h0 X) rfl ⟨rfl, rfl, trivial⟩
    · have h := if_f h c
      refine am_iload_n X dX7_factor_19 rfl rfl ?_
      refine am_bipush (v := (40 : Int32)) X dX7_factor_20 (by decide) ?_
      refine am_icmp_ne (tgt := 112) X dX7_factor_22 (by decide) (fun c => ?_) (fun c => ?_)
      · have h := if_f h c
        refine am_aload_n X dX7_factor_112 rfl rfl ?_
        refine am_ldcS (i := 3) (tx := "skudl") X dX7_factor_113 (by decide) ?_
        obtain ⟨v115, σ115, hc, h⟩ := bd2_some h
        refine am_callv_i1 X dX7_factor_115 cw_X7_132 (ct_X7_among hG N _ _ hc) (by omega) rfl rfl rfl rfl (Nat.le_of_ble_eq_true rfl) ?_
        refine am_istore_n (ls' := [some (.ref 60), some (.int v9), some (.int v115), none, none]) X dX7_factor_118 rfl (by decide)  rfl rfl ?_
        refine am_aload_n X dX7_factor_119 rfl rfl ?_
        refine am_iload_n X dX7_factor_120 rfl rfl ?_
        refine am_iconst (v := (-1 : Int32)) X dX7_factor_121 (by decide) ?_
        refine am_icmp_ne (tgt := 129) X dX7_factor_122 (by decide) (fun c => ?_) (fun c => ?_)
        · have h := if_f h c
          refine am_iconst (v := (0 : Int32)) X dX7_factor_129 (by decide) ?_
          exact am_jump (t_X7_factor_130 hG N dk hdk kr hkr _ _ _ _ h K h0 X) rfl ⟨rfl, rfl, trivial⟩
        · have h := if_t h c
          refine am_iconst (v := (1 : Int32)) X dX7_factor_125 (by decide) ?_
          refine am_goto (tgt := 130) X dX7_factor_126 (by decide) ?_
          exact am_jump (t_X7_factor_130 hG N dk hdk kr hkr _ _ _ _ h K h0 X) rfl ⟨rfl, rfl, trivial⟩
      · have h := if_t h c
        exact am_jump (t_X7_factor_25 hG N dk hdk kr hkr _ _ _ h K h0 X) rfl ⟨rfl, rfl, trivial⟩
  · have h := if_f h c
    obtain rfl := Option.some.inj h
    exact am_vret X h0 dX7_factor_7 rfl ⟨rfl, rfl⟩
set_option maxRecDepth 100000 in
set_option maxHeartbeats 4000000 in
theorem ct_X7_factor {G : Cx} (hG : am_G G) (N : Nat) : ∀ (D : Nat) (σ : Sg) (r : Sg), f_X7_factor N D σ = some r → am_Ct G (10 + 3 * D) yX7_factor mX7_factor [.ref 60] σ (am_qv r) := by
  intro D
  induction D with
  | zero => intro  σ r h; cases h
  | succ D ih => intro  σ r h; exact (ct_X7_factor_b hG N (10 + 3 * D) (by omega) (f_X7_factor N D) ih  σ r h)
set_option maxRecDepth 100000 in
set_option maxHeartbeats 4000000 in
theorem ct_X7_much {G : Cx} (hG : am_G G) (N : Nat) (x1 : Int32) (σ : Sg) (r : Sg) (h : f_X7_much N x1 σ = some r) : am_Ct G 73 yX7_much mX7_much [.ref 60, .int x1, .ref 107] σ (am_qv r) := by
  refine am_enter hG rfl rfl (Nat.le_of_ble_eq_true rfl) ?_
  intro K h0 X
  unfold f_X7_much at h
  refine am_jump (pc' := 0) (ls' := [some (.ref 60), some (.int x1), some (.ref 107), none]) ?_ rfl ⟨rfl, rfl, rfl, trivial⟩
  refine am_aload_n X dX7_much_0 rfl rfl ?_
  refine am_aload_n X dX7_much_1 rfl rfl ?_
  obtain ⟨σ2, hc, h⟩ := bd_some h
  refine am_callv_v1 X dX7_much_2 cw_X7_144 (ct_X7_spells hG N _ _ hc) (Nat.le_of_ble_eq_true rfl) rfl rfl rfl rfl (Nat.le_of_ble_eq_true rfl) ?_
  refine am_aload_n X dX7_much_5 rfl rfl ?_
  obtain ⟨v6, σ6, hc, h⟩ := bd2_some h
  refine am_callv_i0 X dX7_much_6 cw_X7_138 (ct_X7_figures hG N _ _ hc) (Nat.le_of_ble_eq_true rfl) rfl rfl rfl rfl (Nat.le_of_ble_eq_true rfl) ?_
  refine am_istore_n (ls' := [some (.ref 60), some (.int x1), some (.ref 107), some (.int v6)]) X dX7_much_9 rfl (by decide)  rfl rfl ?_
  refine am_aload_n X dX7_much_10 rfl rfl ?_
  refine am_bipush (v := (32 : Int32)) X dX7_much_11 (by decide) ?_
  obtain ⟨σ13, hc, h⟩ := bd_some h
  refine am_callv_v1 X dX7_much_13 cw_X7_111 (ct_X7_must hG N _ _ _ hc) (Nat.le_of_ble_eq_true rfl) rfl rfl rfl rfl (Nat.le_of_ble_eq_true rfl) ?_
  refine am_aload_n X dX7_much_16 rfl rfl ?_
  obtain ⟨σ17, hc, h⟩ := bd_some h
  refine am_callv_v0 X dX7_much_17 cw_X7_127 (ct_X7_some hG N _ (by decide) _ (ct_X7_factor hG N 20) _ _ hc) (Nat.le_of_ble_eq_true rfl) rfl rfl rfl rfl (Nat.le_of_ble_eq_true rfl) ?_
  refine am_aload_n X dX7_much_20 rfl rfl ?_
  refine am_iload_n X dX7_much_21 rfl rfl ?_
  refine am_iload_n X dX7_much_22 rfl rfl ?_
  refine am_isub X dX7_much_23 ?_
  obtain ⟨σ24, hc, h⟩ := bd_some h
  refine am_callv_v1 X dX7_much_24 cw_X7_124 (ct_X7_emits hG N _ _ _ hc) (Nat.le_of_ble_eq_true rfl) rfl rfl rfl rfl (Nat.le_of_ble_eq_true rfl) ?_
  obtain rfl := Option.some.inj h
  exact am_vret X h0 dX7_much_27 rfl ⟨rfl, rfl⟩
set_option maxRecDepth 100000 in
set_option maxHeartbeats 4000000 in
theorem t_X7_spells_v1_2b {G : Cx} (hG : am_G G) (N : Nat) (k2 : Int32 → Sg → Option (Sg)) (hk2 : ∀ (x2 : Int32) (σ : Sg) (r : Sg), k2 x2 σ = some r → am_Wp G mX7_spells 4 (am_qv r) 2 [some (.ref 60), some (.ref 105), some (.int x2)] [] σ) (x2 : Int32) (σ : Sg) (r : Sg) (h : b_X7_spells_v1_2b N k2 x2 σ = some r) : am_Wp G mX7_spells 4 (am_qv r) 2 [some (.ref 60), some (.ref 105), some (.int x2)] [] σ := by
  intro K h0 X
  unfold b_X7_spells_v1_2b at h
  refine am_iload_n X dX7_spells_2 rfl rfl ?_
  refine am_aload_n X dX7_spells_3 rfl rfl ?_
  refine am_strlen (i := 5) (v := (5 : Int32)) X hG dX7_spells_4 cw_X7_102 ⟨by decide, rfl, by decide⟩ (Nat.le_of_ble_eq_true rfl) (Nat.le_of_ble_eq_true rfl) ?_
  refine am_icmp_ge (tgt := 25) X dX7_spells_7 (by decide) (fun c => ?_) (fun c => ?_)
  · have h := if_t h c
    obtain rfl := Option.some.inj h
    exact am_vret X h0 dX7_spells_25 rfl ⟨rfl, rfl⟩
  · have h := if_f h c
    refine am_aload_n X dX7_spells_10 rfl rfl ?_
    refine am_aload_n X dX7_spells_11 rfl rfl ?_
    refine am_iload_n X dX7_spells_12 rfl rfl ?_
    obtain ⟨g, h⟩ := gd_some h
    refine am_charAt (i := 5) X hG dX7_spells_13 cw_X7_107 ⟨by decide, rfl, rfl⟩ g (Nat.le_of_ble_eq_true rfl) (Nat.le_of_ble_eq_true rfl) ?_
    obtain ⟨σ16, hc, h⟩ := bd_some h
    refine am_callv_v1 X dX7_spells_16 cw_X7_111 (ct_X7_must hG N _ _ _ hc) (Nat.le_of_ble_eq_true rfl) rfl rfl rfl rfl (Nat.le_of_ble_eq_true rfl) ?_
    refine am_iinc (ls' := fun x2_19 => [some (.ref 60), some (.ref 105), some (.int x2_19)]) X dX7_spells_19 rfl h (by decide) (by decide) rfl (fun _ => rfl) (fun x2_19 h => ?_)
    refine am_goto (tgt := 2) X dX7_spells_22 (by decide) ?_
    exact am_jump (hk2 _ _ _ h K h0 X) rfl ⟨rfl, rfl, rfl, trivial⟩
set_option maxRecDepth 100000 in
set_option maxHeartbeats 4000000 in
theorem t_X7_spells_v1_2 {G : Cx} (hG : am_G G) (N : Nat) : ∀ (n : Nat) (x2 : Int32) (σ : Sg) (r : Sg), b_X7_spells_v1_2 N n x2 σ = some r → am_Wp G mX7_spells 4 (am_qv r) 2 [some (.ref 60), some (.ref 105), some (.int x2)] [] σ := by
  intro n
  induction n with
  | zero => intro x2 σ r h; cases h
  | succ n ih => intro x2 σ r h; exact t_X7_spells_v1_2b hG N (b_X7_spells_v1_2 N n) ih x2 σ r h
set_option maxRecDepth 100000 in
set_option maxHeartbeats 4000000 in
theorem ct_X7_spells_v1 {G : Cx} (hG : am_G G) (N : Nat) (σ : Sg) (r : Sg) (h : f_X7_spells_v1 N σ = some r) : am_Ct G 5 yX7_spells mX7_spells [.ref 60, .ref 105] σ (am_qv r) := by
  refine am_enter hG rfl rfl (Nat.le_of_ble_eq_true rfl) ?_
  intro K h0 X
  unfold f_X7_spells_v1 at h
  refine am_jump (pc' := 0) (ls' := [some (.ref 60), some (.ref 105), none]) ?_ rfl ⟨rfl, rfl, trivial⟩
  refine am_iconst (v := (0 : Int32)) X dX7_spells_0 (by decide) ?_
  refine am_istore_n (ls' := [some (.ref 60), some (.ref 105), some (.int (0 : Int32))]) X dX7_spells_1 rfl (by decide)  rfl rfl ?_
  exact am_jump (t_X7_spells_v1_2 hG N N _ _ _ h K h0 X) rfl ⟨rfl, rfl, rfl, trivial⟩
set_option maxRecDepth 100000 in
set_option maxHeartbeats 4000000 in
theorem ct_X7_much_v1 {G : Cx} (hG : am_G G) (N : Nat) (x1 : Int32) (σ : Sg) (r : Sg) (h : f_X7_much_v1 N x1 σ = some r) : am_Ct G 73 yX7_much mX7_much [.ref 60, .int x1, .ref 105] σ (am_qv r) := by
  refine am_enter hG rfl rfl (Nat.le_of_ble_eq_true rfl) ?_
  intro K h0 X
  unfold f_X7_much_v1 at h
  refine am_jump (pc' := 0) (ls' := [some (.ref 60), some (.int x1), some (.ref 105), none]) ?_ rfl ⟨rfl, rfl, rfl, trivial⟩
  refine am_aload_n X dX7_much_0 rfl rfl ?_
  refine am_aload_n X dX7_much_1 rfl rfl ?_
  obtain ⟨σ2, hc, h⟩ := bd_some h
  refine am_callv_v1 X dX7_much_2 cw_X7_144 (ct_X7_spells_v1 hG N _ _ hc) (Nat.le_of_ble_eq_true rfl) rfl rfl rfl rfl (Nat.le_of_ble_eq_true rfl) ?_
  refine am_aload_n X dX7_much_5 rfl rfl ?_
  obtain ⟨v6, σ6, hc, h⟩ := bd2_some h
  refine am_callv_i0 X dX7_much_6 cw_X7_138 (ct_X7_figures hG N _ _ hc) (Nat.le_of_ble_eq_true rfl) rfl rfl rfl rfl (Nat.le_of_ble_eq_true rfl) ?_
  refine am_istore_n (ls' := [some (.ref 60), some (.int x1), some (.ref 105), some (.int v6)]) X dX7_much_9 rfl (by decide)  rfl rfl ?_
  refine am_aload_n X dX7_much_10 rfl rfl ?_
  refine am_bipush (v := (32 : Int32)) X dX7_much_11 (by decide) ?_
  obtain ⟨σ13, hc, h⟩ := bd_some h
  refine am_callv_v1 X dX7_much_13 cw_X7_111 (ct_X7_must hG N _ _ _ hc) (Nat.le_of_ble_eq_true rfl) rfl rfl rfl rfl (Nat.le_of_ble_eq_true rfl) ?_
  refine am_aload_n X dX7_much_16 rfl rfl ?_
  obtain ⟨σ17, hc, h⟩ := bd_some h
  refine am_callv_v0 X dX7_much_17 cw_X7_127 (ct_X7_some hG N _ (by decide) _ (ct_X7_factor hG N 20) _ _ hc) (Nat.le_of_ble_eq_true rfl) rfl rfl rfl rfl (Nat.le_of_ble_eq_true rfl) ?_
  refine am_aload_n X dX7_much_20 rfl rfl ?_
  refine am_iload_n X dX7_much_21 rfl rfl ?_
  refine am_iload_n X dX7_much_22 rfl rfl ?_
  refine am_isub X dX7_much_23 ?_
  obtain ⟨σ24, hc, h⟩ := bd_some h
  refine am_callv_v1 X dX7_much_24 cw_X7_124 (ct_X7_emits hG N _ _ _ hc) (Nat.le_of_ble_eq_true rfl) rfl rfl rfl rfl (Nat.le_of_ble_eq_true rfl) ?_
  obtain rfl := Option.some.inj h
  exact am_vret X h0 dX7_much_27 rfl ⟨rfl, rfl⟩
