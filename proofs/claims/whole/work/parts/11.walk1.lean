set_option maxRecDepth 100000 in
set_option maxHeartbeats 4000000 in
theorem t_X1_search_154 {G : Cx} (hG : am_G G) (N : Nat) (k46 : Int32 → Int32 → Sg → Option (Sg)) (k60 : Int32 → Int32 → Int32 → Sg → Option (Sg)) (hk46 : ∀ (x1 : Int32) (x2 : Int32) (σ : Sg) (r : Sg), k46 x1 x2 σ = some r → am_Wp G mX1_search 0 (am_qv r) 46 [some (.ref 7), some (.int x1), some (.int x2), none, none] [] σ) (hk60 : ∀ (x1 : Int32) (x2 : Int32) (x3 : Int32) (σ : Sg) (r : Sg), k60 x1 x2 x3 σ = some r → am_Wp G mX1_search 0 (am_qv r) 60 [some (.ref 7), some (.int x1), some (.int x2), some (.int x3), none] [] σ) (x1 : Int32) (x2 : Int32) (x3 : Int32) (σ : Sg) (r : Sg) (h : b_X1_search_154 N k46 k60 x1 x2 x3 σ = some r) : am_Wp G mX1_search 0 (am_qv r) 154 [some (.ref 7), some (.int x1), some (.int x2), some (.int x3), none] [] σ := by
  intro K h0 X
  unfold b_X1_search_154 at h
  refine am_iinc (ls' := fun x3_154 => [some (.ref 7), some (.int x1), some (.int x2), some (.int x3_154), none]) X dX1_search_154 rfl h (by decide) (by decide) rfl (fun _ => rfl) (fun x3_154 h => ?_)
  refine am_goto (tgt := 60) X dX1_search_157 (by decide) ?_
  exact am_jump (hk60 _ _ _ _ _ h K h0 X) rfl ⟨rfl, rfl, rfl, rfl, trivial⟩
set_option maxRecDepth 100000 in
set_option maxHeartbeats 4000000 in
theorem t_X1_search_60b {G : Cx} (hG : am_G G) (N : Nat) (k46 : Int32 → Int32 → Sg → Option (Sg)) (k60 : Int32 → Int32 → Int32 → Sg → Option (Sg)) (hk46 : ∀ (x1 : Int32) (x2 : Int32) (σ : Sg) (r : Sg), k46 x1 x2 σ = some r → am_Wp G mX1_search 0 (am_qv r) 46 [some (.ref 7), some (.int x1), some (.int x2), none, none] [] σ) (hk60 : ∀ (x1 : Int32) (x2 : Int32) (x3 : Int32) (σ : Sg) (r : Sg), k60 x1 x2 x3 σ = some r → am_Wp G mX1_search 0 (am_qv r) 60 [some (.ref 7), some (.int x1), some (.int x2), some (.int x3), none] [] σ) (x1 : Int32) (x2 : Int32) (x3 : Int32) (σ : Sg) (r : Sg) (h : b_X1_search_60b N k46 k60 x1 x2 x3 σ = some r) : am_Wp G mX1_search 0 (am_qv r) 60 [some (.ref 7), some (.int x1), some (.int x2), some (.int x3), none] [] σ := by
  intro K h0 X
  unfold b_X1_search_60b at h
  refine am_iload_n X dX1_search_60 rfl rfl ?_
  refine am_aload_n X dX1_search_61 rfl rfl ?_
  refine am_getf (v := .int (rg σ 7 6)) X dX1_search_62 fl_X1_86 rfl rfl (by decide) ?_
  refine am_icmp_ge (tgt := 160) X dX1_search_65 (by decide) (fun c => ?_) (fun c => ?_)
  · have h := if_t h c
    refine am_iinc (ls' := fun x2_160 => [some (.ref 7), some (.int x1), some (.int x2_160), some (.int x3), none]) X dX1_search_160 rfl h (by decide) (by decide) rfl (fun _ => rfl) (fun x2_160 h => ?_)
    refine am_goto (tgt := 46) X dX1_search_163 (by decide) ?_
    exact am_jump (hk46 _ _ _ _ h K h0 X) rfl ⟨rfl, rfl, rfl, trivial⟩
  · have h := if_f h c
    refine am_aload_n X dX1_search_68 rfl rfl ?_
    refine am_getf (v := .ref 52) X dX1_search_69 fl_X1_42 rfl rfl (by decide) ?_
    refine am_aload_n X dX1_search_72 rfl rfl ?_
    refine am_getf (v := .ref 47) X dX1_search_73 fl_X1_27 rfl rfl (by decide) ?_
    refine am_iload_n X dX1_search_76 rfl rfl ?_
    obtain ⟨g, h⟩ := gd_some h
    refine am_iald X dX1_search_77 rfl g ?_
    obtain ⟨g, h⟩ := gd_some h
    refine am_iald X dX1_search_78 rfl g ?_
    refine am_topi h (fun x4_79 h => ?_)
    refine am_istore (ls' := [some (.ref 7), some (.int x1), some (.int x2), some (.int x3), some (.int x4_79)]) X dX1_search_79 (by decide)  rfl rfl ?_
    refine am_aload_n X dX1_search_81 rfl rfl ?_
    refine am_getf (v := .ref 49) X dX1_search_82 fl_X1_33 rfl rfl (by decide) ?_
    refine am_iload_n X dX1_search_85 rfl rfl ?_
    obtain ⟨g, h⟩ := gd_some h
    refine am_iald X dX1_search_86 rfl g ?_
    refine am_if_le (tgt := 154) X dX1_search_87 (by decide) (fun c => ?_) (fun c => ?_)
    · have h := if_t h c
      exact am_jump (t_X1_search_154 hG N k46 k60 hk46 hk60 _ _ _ _ _ h K h0 X) rfl ⟨rfl, rfl, rfl, rfl, trivial⟩
    · have h := if_f h c
      refine am_iload X dX1_search_90 rfl ?_
      refine am_ldc (v := (1000000000 : Int32)) X dX1_search_92 (wm_r25 _ (List.mem_of_getElem? (i := 20) rfl)) ?_
      refine am_icmp_ge (tgt := 154) X dX1_search_94 (by decide) (fun c => ?_) (fun c => ?_)
      · have h := if_t h c
        exact am_jump (t_X1_search_154 hG N k46 k60 hk46 hk60 _ _ _ _ _ h K h0 X) rfl ⟨rfl, rfl, rfl, rfl, trivial⟩
      · have h := if_f h c
        refine am_iload X dX1_search_97 rfl ?_
        refine am_aload_n X dX1_search_99 rfl rfl ?_
        refine am_getf (v := .ref 50) X dX1_search_100 fl_X1_36 rfl rfl (by decide) ?_
        refine am_iload_n X dX1_search_103 rfl rfl ?_
        obtain ⟨g, h⟩ := gd_some h
        refine am_iald X dX1_search_104 rfl g ?_
        refine am_iadd X dX1_search_105 ?_
        refine am_aload_n X dX1_search_106 rfl rfl ?_
        refine am_getf (v := .ref 52) X dX1_search_107 fl_X1_42 rfl rfl (by decide) ?_
        refine am_aload_n X dX1_search_110 rfl rfl ?_
        refine am_getf (v := .ref 48) X dX1_search_111 fl_X1_30 rfl rfl (by decide) ?_
        refine am_iload_n X dX1_search_114 rfl rfl ?_
        obtain ⟨g, h⟩ := gd_some h
        refine am_iald X dX1_search_115 rfl g ?_
        obtain ⟨g, h⟩ := gd_some h
        refine am_iald X dX1_search_116 rfl g ?_
        refine am_icmp_ge (tgt := 154) X dX1_search_117 (by decide) (fun c => ?_) (fun c => ?_)
        · have h := if_t h c
          exact am_jump (t_X1_search_154 hG N k46 k60 hk46 hk60 _ _ _ _ _ h K h0 X) rfl ⟨rfl, rfl, rfl, rfl, trivial⟩
        · have h := if_f h c
          refine am_aload_n X dX1_search_120 rfl rfl ?_
          refine am_getf (v := .ref 52) X dX1_search_121 fl_X1_42 rfl rfl (by decide) ?_
          refine am_aload_n X dX1_search_124 rfl rfl ?_
          refine am_getf (v := .ref 48) X dX1_search_125 fl_X1_30 rfl rfl (by decide) ?_
          refine am_iload_n X dX1_search_128 rfl rfl ?_
          obtain ⟨g, h⟩ := gd_some h
          refine am_iald X dX1_search_129 rfl g ?_
          refine am_iload X dX1_search_130 rfl ?_
          refine am_aload_n X dX1_search_132 rfl rfl ?_
          refine am_getf (v := .ref 50) X dX1_search_133 fl_X1_36 rfl rfl (by decide) ?_
          refine am_iload_n X dX1_search_136 rfl rfl ?_
          obtain ⟨g, h⟩ := gd_some h
          refine am_iald X dX1_search_137 rfl g ?_
          refine am_iadd X dX1_search_138 ?_
          obtain ⟨g, h⟩ := gd_some h
          refine am_iast X dX1_search_139 rfl g ?_
          refine am_tops h (fun σ139 h => ?_)
          refine am_aload_n X dX1_search_140 rfl rfl ?_
          refine am_getf (v := .ref 53) X dX1_search_141 fl_X1_45 rfl rfl (by decide) ?_
          refine am_aload_n X dX1_search_144 rfl rfl ?_
          refine am_getf (v := .ref 48) X dX1_search_145 fl_X1_30 rfl rfl (by decide) ?_
          refine am_iload_n X dX1_search_148 rfl rfl ?_
          obtain ⟨g, h⟩ := gd_some h
          refine am_iald X dX1_search_149 rfl g ?_
          refine am_iload_n X dX1_search_150 rfl rfl ?_
          obtain ⟨g, h⟩ := gd_some h
          refine am_iast X dX1_search_151 rfl g ?_
          refine am_tops h (fun σ151 h => ?_)
          refine am_iconst (v := (1 : Int32)) X dX1_search_152 (by decide) ?_
          refine am_istore_n (ls' := [some (.ref 7), some (.int (1 : Int32)), some (.int x2), some (.int x3), some (.int x4_79)]) X dX1_search_153 rfl (by decide)  rfl rfl ?_
          exact am_jump (t_X1_search_154 hG N k46 k60 hk46 hk60 _ _ _ _ _ h K h0 X) rfl ⟨rfl, rfl, rfl, rfl, trivial⟩
set_option maxRecDepth 100000 in
set_option maxHeartbeats 4000000 in
theorem t_X1_search_60 {G : Cx} (hG : am_G G) (N : Nat) (k46 : Int32 → Int32 → Sg → Option (Sg)) (hk46 : ∀ (x1 : Int32) (x2 : Int32) (σ : Sg) (r : Sg), k46 x1 x2 σ = some r → am_Wp G mX1_search 0 (am_qv r) 46 [some (.ref 7), some (.int x1), some (.int x2), none, none] [] σ) : ∀ (n : Nat) (x1 : Int32) (x2 : Int32) (x3 : Int32) (σ : Sg) (r : Sg), b_X1_search_60 N k46 n x1 x2 x3 σ = some r → am_Wp G mX1_search 0 (am_qv r) 60 [some (.ref 7), some (.int x1), some (.int x2), some (.int x3), none] [] σ := by
  intro n
  induction n with
  | zero => intro x1 x2 x3 σ r h; cases h
  | succ n ih => intro x1 x2 x3 σ r h; exact t_X1_search_60b hG N k46 (b_X1_search_60 N k46 n) hk46 ih x1 x2 x3 σ r h
set_option maxRecDepth 100000 in
set_option maxHeartbeats 4000000 in
theorem t_X1_search_46b {G : Cx} (hG : am_G G) (N : Nat) (k46 : Int32 → Int32 → Sg → Option (Sg)) (hk46 : ∀ (x1 : Int32) (x2 : Int32) (σ : Sg) (r : Sg), k46 x1 x2 σ = some r → am_Wp G mX1_search 0 (am_qv r) 46 [some (.ref 7), some (.int x1), some (.int x2), none, none] [] σ) (x1 : Int32) (x2 : Int32) (σ : Sg) (r : Sg) (h : b_X1_search_46b N k46 x1 x2 σ = some r) : am_Wp G mX1_search 0 (am_qv r) 46 [some (.ref 7), some (.int x1), some (.int x2), none, none] [] σ := by
  intro K h0 X
  unfold b_X1_search_46b at h
  refine am_iload_n X dX1_search_46 rfl rfl ?_
  refine am_bipush (v := (8 : Int32)) X dX1_search_47 (by decide) ?_
  refine am_icmp_ge (tgt := 166) X dX1_search_49 (by decide) (fun c => ?_) (fun c => ?_)
  · have h := if_t h c
    obtain rfl := Option.some.inj h
    exact am_vret X h0 dX1_search_166 rfl ⟨rfl, rfl⟩
  · have h := if_f h c
    refine am_iload_n X dX1_search_52 rfl rfl ?_
    refine am_if_eq (tgt := 166) X dX1_search_53 (by decide) (fun c => ?_) (fun c => ?_)
    · have h := if_t h c
      obtain rfl := Option.some.inj h
      exact am_vret X h0 dX1_search_166 rfl ⟨rfl, rfl⟩
    · have h := if_f h c
      refine am_iconst (v := (0 : Int32)) X dX1_search_56 (by decide) ?_
      refine am_istore_n (ls' := [some (.ref 7), some (.int (0 : Int32)), some (.int x2), none, none]) X dX1_search_57 rfl (by decide)  rfl rfl ?_
      refine am_iconst (v := (0 : Int32)) X dX1_search_58 (by decide) ?_
      refine am_istore_n (ls' := [some (.ref 7), some (.int (0 : Int32)), some (.int x2), some (.int (0 : Int32)), none]) X dX1_search_59 rfl (by decide)  rfl rfl ?_
      exact am_jump (t_X1_search_60 hG N k46 hk46 N _ _ _ _ _ h K h0 X) rfl ⟨rfl, rfl, rfl, rfl, trivial⟩
set_option maxRecDepth 100000 in
set_option maxHeartbeats 4000000 in
theorem t_X1_search_46 {G : Cx} (hG : am_G G) (N : Nat) : ∀ (n : Nat) (x1 : Int32) (x2 : Int32) (σ : Sg) (r : Sg), b_X1_search_46 N n x1 x2 σ = some r → am_Wp G mX1_search 0 (am_qv r) 46 [some (.ref 7), some (.int x1), some (.int x2), none, none] [] σ := by
  intro n
  induction n with
  | zero => intro x1 x2 σ r h; cases h
  | succ n ih => intro x1 x2 σ r h; exact t_X1_search_46b hG N (b_X1_search_46 N n) ih x1 x2 σ r h
set_option maxRecDepth 100000 in
set_option maxHeartbeats 4000000 in
theorem t_X1_search_28 {G : Cx} (hG : am_G G) (N : Nat) (k2 : Int32 → Sg → Option (Sg)) (hk2 : ∀ (x1 : Int32) (σ : Sg) (r : Sg), k2 x1 σ = some r → am_Wp G mX1_search 0 (am_qv r) 2 [some (.ref 7), some (.int x1), none, none, none] [] σ) (x1 : Int32) (s1 : Int32) (s2 : Int32) (σ : Sg) (r : Sg) (h : b_X1_search_28 N k2 x1 s1 s2 σ = some r) : am_Wp G mX1_search 0 (am_qv r) 28 [some (.ref 7), some (.int x1), none, none, none] [.int s2, .int s1, .ref 52] σ := by
  intro K h0 X
  unfold b_X1_search_28 at h
  obtain ⟨g, h⟩ := gd_some h
  refine am_iast X dX1_search_28 rfl g ?_
  refine am_tops h (fun σ28 h => ?_)
  refine am_aload_n X dX1_search_29 rfl rfl ?_
  refine am_getf (v := .ref 53) X dX1_search_30 fl_X1_45 rfl rfl (by decide) ?_
  refine am_iload_n X dX1_search_33 rfl rfl ?_
  refine am_iconst (v := (-1 : Int32)) X dX1_search_34 (by decide) ?_
  obtain ⟨g, h⟩ := gd_some h
  refine am_iast X dX1_search_35 rfl g ?_
  refine am_tops h (fun σ35 h => ?_)
  refine am_iinc (ls' := fun x1_36 => [some (.ref 7), some (.int x1_36), none, none, none]) X dX1_search_36 rfl h (by decide) (by decide) rfl (fun _ => rfl) (fun x1_36 h => ?_)
  refine am_goto (tgt := 2) X dX1_search_39 (by decide) ?_
  exact am_jump (hk2 _ _ _ h K h0 X) rfl ⟨rfl, rfl, trivial⟩
set_option maxRecDepth 100000 in
set_option maxHeartbeats 4000000 in
theorem t_X1_search_2b {G : Cx} (hG : am_G G) (N : Nat) (k2 : Int32 → Sg → Option (Sg)) (hk2 : ∀ (x1 : Int32) (σ : Sg) (r : Sg), k2 x1 σ = some r → am_Wp G mX1_search 0 (am_qv r) 2 [some (.ref 7), some (.int x1), none, none, none] [] σ) (x1 : Int32) (σ : Sg) (r : Sg) (h : b_X1_search_2b N k2 x1 σ = some r) : am_Wp G mX1_search 0 (am_qv r) 2 [some (.ref 7), some (.int x1), none, none, none] [] σ := by
  intro K h0 X
  unfold b_X1_search_2b at h
  refine am_iload_n X dX1_search_2 rfl rfl ?_
  refine am_bipush (v := (8 : Int32)) X dX1_search_3 (by decide) ?_
  refine am_icmp_ge (tgt := 42) X dX1_search_5 (by decide) (fun c => ?_) (fun c => ?_)
  · have h := if_t h c
    refine am_iconst (v := (1 : Int32)) X dX1_search_42 (by decide) ?_
    refine am_istore_n (ls' := [some (.ref 7), some (.int (1 : Int32)), none, none, none]) X dX1_search_43 rfl (by decide)  rfl rfl ?_
    refine am_iconst (v := (0 : Int32)) X dX1_search_44 (by decide) ?_
    refine am_istore_n (ls' := [some (.ref 7), some (.int (1 : Int32)), some (.int (0 : Int32)), none, none]) X dX1_search_45 rfl (by decide)  rfl rfl ?_
    exact am_jump (t_X1_search_46 hG N N _ _ _ _ h K h0 X) rfl ⟨rfl, rfl, rfl, trivial⟩
  · have h := if_f h c
    refine am_aload_n X dX1_search_8 rfl rfl ?_
    refine am_getf (v := .ref 52) X dX1_search_9 fl_X1_42 rfl rfl (by decide) ?_
    refine am_iload_n X dX1_search_12 rfl rfl ?_
    refine am_aload_n X dX1_search_13 rfl rfl ?_
    refine am_getf (v := .ref 51) X dX1_search_14 fl_X1_39 rfl rfl (by decide) ?_
    refine am_iload_n X dX1_search_17 rfl rfl ?_
    obtain ⟨g, h⟩ := gd_some h
    refine am_iald X dX1_search_18 rfl g ?_
    refine am_if_le (tgt := 26) X dX1_search_19 (by decide) (fun c => ?_) (fun c => ?_)
    · have h := if_t h c
      refine am_ldc (v := (1000000000 : Int32)) X dX1_search_26 (wm_r25 _ (List.mem_of_getElem? (i := 20) rfl)) ?_
      exact am_jump (t_X1_search_28 hG N k2 hk2 _ _ _ _ _ h K h0 X) rfl ⟨rfl, rfl, trivial⟩
    · have h := if_f h c
      refine am_iconst (v := (0 : Int32)) X dX1_search_22 (by decide) ?_
      refine am_goto (tgt := 28) X dX1_search_23 (by decide) ?_
      exact am_jump (t_X1_search_28 hG N k2 hk2 _ _ _ _ _ h K h0 X) rfl ⟨rfl, rfl, trivial⟩
set_option maxRecDepth 100000 in
set_option maxHeartbeats 4000000 in
theorem t_X1_search_2 {G : Cx} (hG : am_G G) (N : Nat) : ∀ (n : Nat) (x1 : Int32) (σ : Sg) (r : Sg), b_X1_search_2 N n x1 σ = some r → am_Wp G mX1_search 0 (am_qv r) 2 [some (.ref 7), some (.int x1), none, none, none] [] σ := by
  intro n
  induction n with
  | zero => intro x1 σ r h; cases h
  | succ n ih => intro x1 σ r h; exact t_X1_search_2b hG N (b_X1_search_2 N n) ih x1 σ r h
set_option maxRecDepth 100000 in
set_option maxHeartbeats 4000000 in
theorem ct_X1_search {G : Cx} (hG : am_G G) (N : Nat) (σ : Sg) (r : Sg) (h : f_X1_search N σ = some r) : am_Ct G 1 yX1_search mX1_search [.ref 7] σ (am_qv r) := by
  refine am_enter hG rfl rfl (Nat.le_of_ble_eq_true rfl) ?_
  intro K h0 X
  unfold f_X1_search at h
  refine am_jump (pc' := 0) (ls' := [some (.ref 7), none, none, none, none]) ?_ rfl ⟨rfl, trivial⟩
  refine am_iconst (v := (0 : Int32)) X dX1_search_0 (by decide) ?_
  refine am_istore_n (ls' := [some (.ref 7), some (.int (0 : Int32)), none, none, none]) X dX1_search_1 rfl (by decide)  rfl rfl ?_
  exact am_jump (t_X1_search_2 hG N N _ _ _ h K h0 X) rfl ⟨rfl, rfl, trivial⟩
set_option maxRecDepth 100000 in
set_option maxHeartbeats 4000000 in
theorem t_X1_nearest_41 {G : Cx} (hG : am_G G) (N : Nat) (k7 : Int32 → Int32 → Int32 → Sg → Option (Int32 × Sg)) (hk7 : ∀ (x1 : Int32) (x2 : Int32) (x3 : Int32) (σ : Sg) (r : Int32 × Sg), k7 x1 x2 x3 σ = some r → am_Wp G mX1_nearest 0 (am_qi r.1 r.2) 7 [some (.ref 7), some (.int x1), some (.int x2), some (.int x3)] [] σ) (x1 : Int32) (x2 : Int32) (x3 : Int32) (σ : Sg) (r : Int32 × Sg) (h : b_X1_nearest_41 N k7 x1 x2 x3 σ = some r) : am_Wp G mX1_nearest 0 (am_qi r.1 r.2) 41 [some (.ref 7), some (.int x1), some (.int x2), some (.int x3)] [] σ := by
  intro K h0 X
  unfold b_X1_nearest_41 at h
  refine am_iinc (ls' := fun x3_41 => [some (.ref 7), some (.int x1), some (.int x2), some (.int x3_41)]) X dX1_nearest_41 rfl h (by decide) (by decide) rfl (fun _ => rfl) (fun x3_41 h => ?_)
  refine am_goto (tgt := 7) X dX1_nearest_44 (by decide) ?_
  exact am_jump (hk7 _ _ _ _ _ h K h0 X) rfl ⟨rfl, rfl, rfl, rfl, trivial⟩
set_option maxRecDepth 100000 in
set_option maxHeartbeats 4000000 in
theorem t_X1_nearest_7b {G : Cx} (hG : am_G G) (N : Nat) (k7 : Int32 → Int32 → Int32 → Sg → Option (Int32 × Sg)) (hk7 : ∀ (x1 : Int32) (x2 : Int32) (x3 : Int32) (σ : Sg) (r : Int32 × Sg), k7 x1 x2 x3 σ = some r → am_Wp G mX1_nearest 0 (am_qi r.1 r.2) 7 [some (.ref 7), some (.int x1), some (.int x2), some (.int x3)] [] σ) (x1 : Int32) (x2 : Int32) (x3 : Int32) (σ : Sg) (r : Int32 × Sg) (h : b_X1_nearest_7b N k7 x1 x2 x3 σ = some r) : am_Wp G mX1_nearest 0 (am_qi r.1 r.2) 7 [some (.ref 7), some (.int x1), some (.int x2), some (.int x3)] [] σ := by
  intro K h0 X
  unfold b_X1_nearest_7b at h
  refine am_iload_n X dX1_nearest_7 rfl rfl ?_
  refine am_bipush (v := (8 : Int32)) X dX1_nearest_8 (by decide) ?_
  refine am_icmp_ge (tgt := 47) X dX1_nearest_10 (by decide) (fun c => ?_) (fun c => ?_)
  · have h := if_t h c
    refine am_iload_n X dX1_nearest_47 rfl rfl ?_
    obtain rfl := Option.some.inj h
    exact am_iret X h0 dX1_nearest_48 rfl ⟨rfl, rfl⟩
  · have h := if_f h c
    refine am_aload_n X dX1_nearest_13 rfl rfl ?_
    refine am_getf (v := .ref 51) X dX1_nearest_14 fl_X1_39 rfl rfl (by decide) ?_
    refine am_iload_n X dX1_nearest_17 rfl rfl ?_
    obtain ⟨g, h⟩ := gd_some h
    refine am_iald X dX1_nearest_18 rfl g ?_
    refine am_if_ge (tgt := 41) X dX1_nearest_19 (by decide) (fun c => ?_) (fun c => ?_)
    · have h := if_t h c
      exact am_jump (t_X1_nearest_41 hG N k7 hk7 _ _ _ _ _ h K h0 X) rfl ⟨rfl, rfl, rfl, rfl, trivial⟩
    · have h := if_f h c
      refine am_aload_n X dX1_nearest_22 rfl rfl ?_
      refine am_getf (v := .ref 52) X dX1_nearest_23 fl_X1_42 rfl rfl (by decide) ?_
      refine am_iload_n X dX1_nearest_26 rfl rfl ?_
      obtain ⟨g, h⟩ := gd_some h
      refine am_iald X dX1_nearest_27 rfl g ?_
      refine am_iload_n X dX1_nearest_28 rfl rfl ?_
      refine am_icmp_ge (tgt := 41) X dX1_nearest_29 (by decide) (fun c => ?_) (fun c => ?_)
      · have h := if_t h c
        exact am_jump (t_X1_nearest_41 hG N k7 hk7 _ _ _ _ _ h K h0 X) rfl ⟨rfl, rfl, rfl, rfl, trivial⟩
      · have h := if_f h c
        refine am_iload_n X dX1_nearest_32 rfl rfl ?_
        refine am_istore_n (ls' := [some (.ref 7), some (.int x3), some (.int x2), some (.int x3)]) X dX1_nearest_33 rfl (by decide)  rfl rfl ?_
        refine am_aload_n X dX1_nearest_34 rfl rfl ?_
        refine am_getf (v := .ref 52) X dX1_nearest_35 fl_X1_42 rfl rfl (by decide) ?_
        refine am_iload_n X dX1_nearest_38 rfl rfl ?_
        obtain ⟨g, h⟩ := gd_some h
        refine am_iald X dX1_nearest_39 rfl g ?_
        refine am_topi h (fun x2_40 h => ?_)
        refine am_istore_n (ls' := [some (.ref 7), some (.int x3), some (.int x2_40), some (.int x3)]) X dX1_nearest_40 rfl (by decide)  rfl rfl ?_
        exact am_jump (t_X1_nearest_41 hG N k7 hk7 _ _ _ _ _ h K h0 X) rfl ⟨rfl, rfl, rfl, rfl, trivial⟩
set_option maxRecDepth 100000 in
set_option maxHeartbeats 4000000 in
theorem t_X1_nearest_7 {G : Cx} (hG : am_G G) (N : Nat) : ∀ (n : Nat) (x1 : Int32) (x2 : Int32) (x3 : Int32) (σ : Sg) (r : Int32 × Sg), b_X1_nearest_7 N n x1 x2 x3 σ = some r → am_Wp G mX1_nearest 0 (am_qi r.1 r.2) 7 [some (.ref 7), some (.int x1), some (.int x2), some (.int x3)] [] σ := by
  intro n
  induction n with
  | zero => intro x1 x2 x3 σ r h; cases h
  | succ n ih => intro x1 x2 x3 σ r h; exact t_X1_nearest_7b hG N (b_X1_nearest_7 N n) ih x1 x2 x3 σ r h
set_option maxRecDepth 100000 in
set_option maxHeartbeats 4000000 in
theorem ct_X1_nearest {G : Cx} (hG : am_G G) (N : Nat) (σ : Sg) (r : Int32 × Sg) (h : f_X1_nearest N σ = some r) : am_Ct G 1 yX1_nearest mX1_nearest [.ref 7] σ (am_qi r.1 r.2) := by
  refine am_enter hG rfl rfl (Nat.le_of_ble_eq_true rfl) ?_
  intro K h0 X
  unfold f_X1_nearest at h
  refine am_jump (pc' := 0) (ls' := [some (.ref 7), none, none, none]) ?_ rfl ⟨rfl, trivial⟩
  refine am_iconst (v := (-1 : Int32)) X dX1_nearest_0 (by decide) ?_
  refine am_istore_n (ls' := [some (.ref 7), some (.int (-1 : Int32)), none, none]) X dX1_nearest_1 rfl (by decide)  rfl rfl ?_
  refine am_ldc (v := (1000000000 : Int32)) X dX1_nearest_2 (wm_r25 _ (List.mem_of_getElem? (i := 20) rfl)) ?_
  refine am_istore_n (ls' := [some (.ref 7), some (.int (-1 : Int32)), some (.int (1000000000 : Int32)), none]) X dX1_nearest_4 rfl (by decide)  rfl rfl ?_
  refine am_iconst (v := (0 : Int32)) X dX1_nearest_5 (by decide) ?_
  refine am_istore_n (ls' := [some (.ref 7), some (.int (-1 : Int32)), some (.int (1000000000 : Int32)), some (.int (0 : Int32))]) X dX1_nearest_6 rfl (by decide)  rfl rfl ?_
  exact am_jump (t_X1_nearest_7 hG N N _ _ _ _ _ h K h0 X) rfl ⟨rfl, rfl, rfl, rfl, trivial⟩
set_option maxRecDepth 100000 in
set_option maxHeartbeats 4000000 in
theorem t_X1_send_99b {G : Cx} (hG : am_G G) (N : Nat) (k99 : Int32 → Int32 → Int32 → Sg → Option (Int32 × Sg)) (hk99 : ∀ (x2 : Int32) (x3 : Int32) (x4 : Int32) (σ : Sg) (r : Int32 × Sg), k99 x2 x3 x4 σ = some r → am_Wp G mX1_send 0 (am_qi r.1 r.2) 99 [some (.ref 7), none, some (.int x2), some (.int x3), some (.int x4), none] [] σ) (x2 : Int32) (x3 : Int32) (x4 : Int32) (σ : Sg) (r : Int32 × Sg) (h : b_X1_send_99b N k99 x2 x3 x4 σ = some r) : am_Wp G mX1_send 0 (am_qi r.1 r.2) 99 [some (.ref 7), none, some (.int x2), some (.int x3), some (.int x4), none] [] σ := by
  intro K h0 X
  unfold b_X1_send_99b at h
  refine am_iload X dX1_send_99 rfl ?_
  refine am_bipush (v := (8 : Int32)) X dX1_send_101 (by decide) ?_
  refine am_icmp_ge (tgt := 161) X dX1_send_103 (by decide) (fun c => ?_) (fun c => ?_)
  · have h := if_t h c
    refine am_iload_n X dX1_send_161 rfl rfl ?_
    obtain rfl := Option.some.inj h
    exact am_iret X h0 dX1_send_162 rfl ⟨rfl, rfl⟩
  · have h := if_f h c
    refine am_aload_n X dX1_send_106 rfl rfl ?_
    refine am_getf (v := .ref 53) X dX1_send_107 fl_X1_45 rfl rfl (by decide) ?_
    refine am_iload_n X dX1_send_110 rfl rfl ?_
    obtain ⟨g, h⟩ := gd_some h
    refine am_iald X dX1_send_111 rfl g ?_
    refine am_if_lt (tgt := 161) X dX1_send_112 (by decide) (fun c => ?_) (fun c => ?_)
    · have h := if_t h c
      refine am_iload_n X dX1_send_161 rfl rfl ?_
      obtain rfl := Option.some.inj h
      exact am_iret X h0 dX1_send_162 rfl ⟨rfl, rfl⟩
    · have h := if_f h c
      refine am_aload_n X dX1_send_115 rfl rfl ?_
      refine am_getf (v := .ref 53) X dX1_send_116 fl_X1_45 rfl rfl (by decide) ?_
      refine am_iload_n X dX1_send_119 rfl rfl ?_
      obtain ⟨g, h⟩ := gd_some h
      refine am_iald X dX1_send_120 rfl g ?_
      refine am_topi h (fun x5_121 h => ?_)
      refine am_istore (ls' := [some (.ref 7), none, some (.int x2), some (.int x3), some (.int x4), some (.int x5_121)]) X dX1_send_121 (by decide)  rfl rfl ?_
      refine am_aload_n X dX1_send_123 rfl rfl ?_
      refine am_getf (v := .ref 49) X dX1_send_124 fl_X1_33 rfl rfl (by decide) ?_
      refine am_iload X dX1_send_127 rfl ?_
      refine am_dup2 X dX1_send_129 rfl rfl ?_
      obtain ⟨g, h⟩ := gd_some h
      refine am_iald X dX1_send_130 rfl g ?_
      refine am_iload_n X dX1_send_131 rfl rfl ?_
      refine am_isub X dX1_send_132 ?_
      obtain ⟨g, h⟩ := gd_some h
      refine am_iast X dX1_send_133 rfl g ?_
      refine am_tops h (fun σ133 h => ?_)
      refine am_aload_n X dX1_send_134 rfl rfl ?_
      refine am_getf (v := .ref 49) X dX1_send_135 fl_X1_33 rfl rfl (by decide) ?_
      refine am_iload X dX1_send_138 rfl ?_
      refine am_iconst (v := (1 : Int32)) X dX1_send_140 (by decide) ?_
      refine am_ixor X dX1_send_141 ?_
      refine am_dup2 X dX1_send_142 rfl rfl ?_
      obtain ⟨g, h⟩ := gd_some h
      refine am_iald X dX1_send_143 rfl g ?_
      refine am_iload_n X dX1_send_144 rfl rfl ?_
      refine am_iadd X dX1_send_145 ?_
      obtain ⟨g, h⟩ := gd_some h
      refine am_iast X dX1_send_146 rfl g ?_
      refine am_tops h (fun σ146 h => ?_)
      refine am_aload_n X dX1_send_147 rfl rfl ?_
      refine am_getf (v := .ref 47) X dX1_send_148 fl_X1_27 rfl rfl (by decide) ?_
      refine am_iload X dX1_send_151 rfl ?_
      obtain ⟨g, h⟩ := gd_some h
      refine am_iald X dX1_send_153 rfl g ?_
      refine am_topi h (fun x3_154 h => ?_)
      refine am_istore_n (ls' := [some (.ref 7), none, some (.int x2), some (.int x3_154), some (.int x4), some (.int x5_121)]) X dX1_send_154 rfl (by decide)  rfl rfl ?_
      refine am_iinc (ls' := fun x4_155 => [some (.ref 7), none, some (.int x2), some (.int x3_154), some (.int x4_155), some (.int x5_121)]) X dX1_send_155 rfl h (by decide) (by decide) rfl (fun _ => rfl) (fun x4_155 h => ?_)
      refine am_goto (tgt := 99) X dX1_send_158 (by decide) ?_
      exact am_jump (hk99 _ _ _ _ _ h K h0 X) rfl ⟨rfl, rfl, rfl, rfl, trivial⟩
set_option maxRecDepth 100000 in
set_option maxHeartbeats 4000000 in
theorem t_X1_send_99 {G : Cx} (hG : am_G G) (N : Nat) : ∀ (n : Nat) (x2 : Int32) (x3 : Int32) (x4 : Int32) (σ : Sg) (r : Int32 × Sg), b_X1_send_99 N n x2 x3 x4 σ = some r → am_Wp G mX1_send 0 (am_qi r.1 r.2) 99 [some (.ref 7), none, some (.int x2), some (.int x3), some (.int x4), none] [] σ := by
  intro n
  induction n with
  | zero => intro x2 x3 x4 σ r h; cases h
  | succ n ih => intro x2 x3 x4 σ r h; exact t_X1_send_99b hG N (b_X1_send_99 N n) ih x2 x3 x4 σ r h
set_option maxRecDepth 100000 in
set_option maxHeartbeats 4000000 in
theorem t_X1_send_63 {G : Cx} (hG : am_G G) (N : Nat) (x1 : Int32) (x2 : Int32) (x3 : Int32) (σ : Sg) (r : Int32 × Sg) (h : b_X1_send_63 N x1 x2 x3 σ = some r) : am_Wp G mX1_send 0 (am_qi r.1 r.2) 63 [some (.ref 7), some (.int x1), some (.int x2), some (.int x3), none, none] [] σ := by
  intro K h0 X
  unfold b_X1_send_63 at h
  refine am_iload_n X dX1_send_63 rfl rfl ?_
  refine am_aload_n X dX1_send_64 rfl rfl ?_
  refine am_getf (v := .ref 51) X dX1_send_65 fl_X1_39 rfl rfl (by decide) ?_
  refine am_iload_n X dX1_send_68 rfl rfl ?_
  obtain ⟨g, h⟩ := gd_some h
  refine am_iald X dX1_send_69 rfl g ?_
  refine am_min X dX1_send_70 (wm_r26 _ (List.mem_of_getElem? (i := 5) rfl)) ⟨Nat.le_add_left 1 _, Nat.le_of_ble_eq_true rfl⟩ ?_
  refine am_topi h (fun x2_73 h => ?_)
  refine am_istore_n (ls' := [some (.ref 7), some (.int x1), some (.int x2_73), some (.int x3), none, none]) X dX1_send_73 rfl (by decide)  rfl rfl ?_
  refine am_aload_n X dX1_send_74 rfl rfl ?_
  refine am_getf (v := .ref 51) X dX1_send_75 fl_X1_39 rfl rfl (by decide) ?_
  refine am_iload_n X dX1_send_78 rfl rfl ?_
  refine am_dup2 X dX1_send_79 rfl rfl ?_
  obtain ⟨g, h⟩ := gd_some h
  refine am_iald X dX1_send_80 rfl g ?_
  refine am_iload_n X dX1_send_81 rfl rfl ?_
  refine am_isub X dX1_send_82 ?_
  obtain ⟨g, h⟩ := gd_some h
  refine am_iast X dX1_send_83 rfl g ?_
  refine am_tops h (fun σ83 h => ?_)
  refine am_aload_n X dX1_send_84 rfl rfl ?_
  refine am_getf (v := .ref 51) X dX1_send_85 fl_X1_39 rfl rfl (by decide) ?_
  refine am_iload_n X dX1_send_88 rfl rfl ?_
  refine am_dup2 X dX1_send_89 rfl rfl ?_
  obtain ⟨g, h⟩ := gd_some h
  refine am_iald X dX1_send_90 rfl g ?_
  refine am_iload_n X dX1_send_91 rfl rfl ?_
  refine am_iadd X dX1_send_92 ?_
  obtain ⟨g, h⟩ := gd_some h
  refine am_iast X dX1_send_93 rfl g ?_
  refine am_tops h (fun σ93 h => ?_)
  refine am_iload_n X dX1_send_94 rfl rfl ?_
  refine am_istore_n (ls' := [some (.ref 7), some (.int x1), some (.int x2_73), some (.int x1), none, none]) X dX1_send_95 rfl (by decide)  rfl rfl ?_
  refine am_iconst (v := (0 : Int32)) X dX1_send_96 (by decide) ?_
  refine am_istore (ls' := [some (.ref 7), some (.int x1), some (.int x2_73), some (.int x1), some (.int (0 : Int32)), none]) X dX1_send_97 (by decide)  rfl rfl ?_
  exact am_jump (t_X1_send_99 hG N N _ _ _ _ _ h K h0 X) rfl ⟨rfl, rfl, rfl, rfl, trivial⟩
set_option maxRecDepth 100000 in
set_option maxHeartbeats 4000000 in
theorem t_X1_send_13b {G : Cx} (hG : am_G G) (N : Nat) (k13 : Int32 → Int32 → Int32 → Int32 → Sg → Option (Int32 × Sg)) (hk13 : ∀ (x1 : Int32) (x2 : Int32) (x3 : Int32) (x4 : Int32) (σ : Sg) (r : Int32 × Sg), k13 x1 x2 x3 x4 σ = some r → am_Wp G mX1_send 0 (am_qi r.1 r.2) 13 [some (.ref 7), some (.int x1), some (.int x2), some (.int x3), some (.int x4), none] [] σ) (x1 : Int32) (x2 : Int32) (x3 : Int32) (x4 : Int32) (σ : Sg) (r : Int32 × Sg) (h : b_X1_send_13b N k13 x1 x2 x3 x4 σ = some r) : am_Wp G mX1_send 0 (am_qi r.1 r.2) 13 [some (.ref 7), some (.int x1), some (.int x2), some (.int x3), some (.int x4), none] [] σ := by
  intro K h0 X
  unfold b_X1_send_13b at h
  refine am_iload X dX1_send_13 rfl ?_
  refine am_bipush (v := (8 : Int32)) X dX1_send_15 (by decide) ?_
  refine am_icmp_ge (tgt := 63) X dX1_send_17 (by decide) (fun c => ?_) (fun c => ?_)
  · have h := if_t h c
    exact am_jump (t_X1_send_63 hG N _ _ _ _ _ h K h0 X) rfl ⟨rfl, rfl, rfl, rfl, trivial⟩
  · have h := if_f h c
    refine am_aload_n X dX1_send_20 rfl rfl ?_
    refine am_getf (v := .ref 53) X dX1_send_21 fl_X1_45 rfl rfl (by decide) ?_
    refine am_iload_n X dX1_send_24 rfl rfl ?_
    obtain ⟨g, h⟩ := gd_some h
    refine am_iald X dX1_send_25 rfl g ?_
    refine am_if_lt (tgt := 63) X dX1_send_26 (by decide) (fun c => ?_) (fun c => ?_)
    · have h := if_t h c
      exact am_jump (t_X1_send_63 hG N _ _ _ _ _ h K h0 X) rfl ⟨rfl, rfl, rfl, rfl, trivial⟩
    · have h := if_f h c
      refine am_iload_n X dX1_send_29 rfl rfl ?_
      refine am_aload_n X dX1_send_30 rfl rfl ?_
      refine am_getf (v := .ref 49) X dX1_send_31 fl_X1_33 rfl rfl (by decide) ?_
      refine am_aload_n X dX1_send_34 rfl rfl ?_
      refine am_getf (v := .ref 53) X dX1_send_35 fl_X1_45 rfl rfl (by decide) ?_
      refine am_iload_n X dX1_send_38 rfl rfl ?_
      obtain ⟨g, h⟩ := gd_some h
      refine am_iald X dX1_send_39 rfl g ?_
      obtain ⟨g, h⟩ := gd_some h
      refine am_iald X dX1_send_40 rfl g ?_
      refine am_min X dX1_send_41 (wm_r26 _ (List.mem_of_getElem? (i := 5) rfl)) ⟨Nat.le_add_left 1 _, Nat.le_of_ble_eq_true rfl⟩ ?_
      refine am_topi h (fun x2_44 h => ?_)
      refine am_istore_n (ls' := [some (.ref 7), some (.int x1), some (.int x2_44), some (.int x3), some (.int x4), none]) X dX1_send_44 rfl (by decide)  rfl rfl ?_
      refine am_aload_n X dX1_send_45 rfl rfl ?_
      refine am_getf (v := .ref 47) X dX1_send_46 fl_X1_27 rfl rfl (by decide) ?_
      refine am_aload_n X dX1_send_49 rfl rfl ?_
      refine am_getf (v := .ref 53) X dX1_send_50 fl_X1_45 rfl rfl (by decide) ?_
      refine am_iload_n X dX1_send_53 rfl rfl ?_
      obtain ⟨g, h⟩ := gd_some h
      refine am_iald X dX1_send_54 rfl g ?_
      obtain ⟨g, h⟩ := gd_some h
      refine am_iald X dX1_send_55 rfl g ?_
      refine am_topi h (fun x3_56 h => ?_)
      refine am_istore_n (ls' := [some (.ref 7), some (.int x1), some (.int x2_44), some (.int x3_56), some (.int x4), none]) X dX1_send_56 rfl (by decide)  rfl rfl ?_
      refine am_iinc (ls' := fun x4_57 => [some (.ref 7), some (.int x1), some (.int x2_44), some (.int x3_56), some (.int x4_57), none]) X dX1_send_57 rfl h (by decide) (by decide) rfl (fun _ => rfl) (fun x4_57 h => ?_)
      refine am_goto (tgt := 13) X dX1_send_60 (by decide) ?_
      exact am_jump (hk13 _ _ _ _ _ _ h K h0 X) rfl ⟨rfl, rfl, rfl, rfl, rfl, trivial⟩
set_option maxRecDepth 100000 in
set_option maxHeartbeats 4000000 in
theorem t_X1_send_13 {G : Cx} (hG : am_G G) (N : Nat) : ∀ (n : Nat) (x1 : Int32) (x2 : Int32) (x3 : Int32) (x4 : Int32) (σ : Sg) (r : Int32 × Sg), b_X1_send_13 N n x1 x2 x3 x4 σ = some r → am_Wp G mX1_send 0 (am_qi r.1 r.2) 13 [some (.ref 7), some (.int x1), some (.int x2), some (.int x3), some (.int x4), none] [] σ := by
  intro n
  induction n with
  | zero => intro x1 x2 x3 x4 σ r h; cases h
  | succ n ih => intro x1 x2 x3 x4 σ r h; exact t_X1_send_13b hG N (b_X1_send_13 N n) ih x1 x2 x3 x4 σ r h
set_option maxRecDepth 100000 in
set_option maxHeartbeats 4000000 in
theorem ct_X1_send {G : Cx} (hG : am_G G) (N : Nat) (x1 : Int32) (σ : Sg) (r : Int32 × Sg) (h : f_X1_send N x1 σ = some r) : am_Ct G 1 yX1_send mX1_send [.ref 7, .int x1] σ (am_qi r.1 r.2) := by
  refine am_enter hG rfl rfl (Nat.le_of_ble_eq_true rfl) ?_
  intro K h0 X
  unfold f_X1_send at h
  refine am_jump (pc' := 0) (ls' := [some (.ref 7), some (.int x1), none, none, none, none]) ?_ rfl ⟨rfl, rfl, trivial⟩
  refine am_aload_n X dX1_send_0 rfl rfl ?_
  refine am_getf (v := .ref 51) X dX1_send_1 fl_X1_39 rfl rfl (by decide) ?_
  refine am_iload_n X dX1_send_4 rfl rfl ?_
  obtain ⟨g, h⟩ := gd_some h
  refine am_iald X dX1_send_5 rfl g ?_
  refine am_ineg X dX1_send_6 ?_
  refine am_topi h (fun x2_7 h => ?_)
  refine am_istore_n (ls' := [some (.ref 7), some (.int x1), some (.int x2_7), none, none, none]) X dX1_send_7 rfl (by decide)  rfl rfl ?_
  refine am_iload_n X dX1_send_8 rfl rfl ?_
  refine am_istore_n (ls' := [some (.ref 7), some (.int x1), some (.int x2_7), some (.int x1), none, none]) X dX1_send_9 rfl (by decide)  rfl rfl ?_
  refine am_iconst (v := (0 : Int32)) X dX1_send_10 (by decide) ?_
  refine am_istore (ls' := [some (.ref 7), some (.int x1), some (.int x2_7), some (.int x1), some (.int (0 : Int32)), none]) X dX1_send_11 (by decide)  rfl rfl ?_
  exact am_jump (t_X1_send_13 hG N N _ _ _ _ _ _ h K h0 X) rfl ⟨rfl, rfl, rfl, rfl, rfl, trivial⟩
set_option maxRecDepth 100000 in
set_option maxHeartbeats 4000000 in
theorem t_X1_solve_9b {G : Cx} (hG : am_G G) (N : Nat) (k9 : Int32 → Int32 → Sg → Option (Int32 × Sg)) (hk9 : ∀ (x2 : Int32) (x3 : Int32) (σ : Sg) (r : Int32 × Sg), k9 x2 x3 σ = some r → am_Wp G mX1_solve 3 (am_qi r.1 r.2) 9 [some (.ref 7), none, some (.int x2), some (.int x3), none] [] σ) (x2 : Int32) (x3 : Int32) (σ : Sg) (r : Int32 × Sg) (h : b_X1_solve_9b N k9 x2 x3 σ = some r) : am_Wp G mX1_solve 3 (am_qi r.1 r.2) 9 [some (.ref 7), none, some (.int x2), some (.int x3), none] [] σ := by
  intro K h0 X
  unfold b_X1_solve_9b at h
  refine am_iload_n X dX1_solve_9 rfl rfl ?_
  refine am_ldc (v := (1000000 : Int32)) X dX1_solve_10 (wm_r24 _ (List.mem_of_getElem? (i := 18) rfl)) ?_
  refine am_icmp_ge (tgt := 63) X dX1_solve_12 (by decide) (fun c => ?_) (fun c => ?_)
  · have h := if_t h c
    refine am_iload_n X dX1_solve_63 rfl rfl ?_
    obtain rfl := Option.some.inj h
    exact am_iret X h0 dX1_solve_64 rfl ⟨rfl, rfl⟩
  · have h := if_f h c
    refine am_aload_n X dX1_solve_15 rfl rfl ?_
    obtain ⟨v16, σ16, hc, h⟩ := bd2_some h
    refine am_callv_i0 X dX1_solve_16 cw_X1_72 (ct_X1_isUnsettled hG N _ _ hc) (Nat.le_of_ble_eq_true rfl) rfl rfl rfl rfl (Nat.le_of_ble_eq_true rfl) ?_
    refine am_if_eq (tgt := 63) X dX1_solve_19 (by decide) (fun c => ?_) (fun c => ?_)
    · have h := if_t h c
      refine am_iload_n X dX1_solve_63 rfl rfl ?_
      obtain rfl := Option.some.inj h
      exact am_iret X h0 dX1_solve_64 rfl ⟨rfl, rfl⟩
    · have h := if_f h c
      refine am_aload_n X dX1_solve_22 rfl rfl ?_
      obtain ⟨σ23, hc, h⟩ := bd_some h
      refine am_callv_v0 X dX1_solve_23 cw_X1_76 (ct_X1_search hG N _ _ hc) (Nat.le_of_ble_eq_true rfl) rfl rfl rfl rfl (Nat.le_of_ble_eq_true rfl) ?_
      refine am_aload_n X dX1_solve_26 rfl rfl ?_
      obtain ⟨v27, σ27, hc, h⟩ := bd2_some h
      refine am_callv_i0 X dX1_solve_27 cw_X1_79 (ct_X1_nearest hG N _ _ hc) (Nat.le_of_ble_eq_true rfl) rfl rfl rfl rfl (Nat.le_of_ble_eq_true rfl) ?_
      refine am_istore (ls' := [some (.ref 7), none, some (.int x2), some (.int x3), some (.int v27)]) X dX1_solve_30 (by decide)  rfl rfl ?_
      refine am_iload X dX1_solve_32 rfl ?_
      refine am_if_ge (tgt := 40) X dX1_solve_34 (by decide) (fun c => ?_) (fun c => ?_)
      · have h := if_t h c
        refine am_iload_n X dX1_solve_40 rfl rfl ?_
        refine am_aload_n X dX1_solve_41 rfl rfl ?_
        refine am_getf (v := .ref 52) X dX1_solve_42 fl_X1_42 rfl rfl (by decide) ?_
        refine am_iload X dX1_solve_45 rfl ?_
        obtain ⟨g, h⟩ := gd_some h
        refine am_iald X dX1_solve_47 rfl g ?_
        refine am_aload_n X dX1_solve_48 rfl rfl ?_
        refine am_iload X dX1_solve_49 rfl ?_
        obtain ⟨v51, σ51, hc, h⟩ := bd2_some h
        refine am_callv_i1 X dX1_solve_51 cw_X1_83 (ct_X1_send hG N _ _ _ hc) (Nat.le_of_ble_eq_true rfl) rfl rfl rfl rfl (Nat.le_of_ble_eq_true rfl) ?_
        refine am_imul X dX1_solve_54 ?_
        refine am_iadd X dX1_solve_55 ?_
        refine am_topi h (fun x2_56 h => ?_)
        refine am_istore_n (ls' := [some (.ref 7), none, some (.int x2_56), some (.int x3), some (.int v27)]) X dX1_solve_56 rfl (by decide)  rfl rfl ?_
        refine am_iinc (ls' := fun x3_57 => [some (.ref 7), none, some (.int x2_56), some (.int x3_57), some (.int v27)]) X dX1_solve_57 rfl h (by decide) (by decide) rfl (fun _ => rfl) (fun x3_57 h => ?_)
        refine am_goto (tgt := 9) X dX1_solve_60 (by decide) ?_
        exact am_jump (hk9 _ _ _ _ h K h0 X) rfl ⟨rfl, rfl, rfl, trivial⟩
      · have h := if_f h c
        refine am_bipush (v := (-5 : Int32)) X dX1_solve_37 (by decide) ?_
        obtain rfl := Option.some.inj h
        exact am_iret X h0 dX1_solve_39 rfl ⟨rfl, rfl⟩
set_option maxRecDepth 100000 in
set_option maxHeartbeats 4000000 in
theorem t_X1_solve_9 {G : Cx} (hG : am_G G) (N : Nat) : ∀ (n : Nat) (x2 : Int32) (x3 : Int32) (σ : Sg) (r : Int32 × Sg), b_X1_solve_9 N n x2 x3 σ = some r → am_Wp G mX1_solve 3 (am_qi r.1 r.2) 9 [some (.ref 7), none, some (.int x2), some (.int x3), none] [] σ := by
  intro n
  induction n with
  | zero => intro x2 x3 σ r h; cases h
  | succ n ih => intro x2 x3 σ r h; exact t_X1_solve_9b hG N (b_X1_solve_9 N n) ih x2 x3 σ r h
set_option maxRecDepth 100000 in
set_option maxHeartbeats 4000000 in
theorem ct_X1_solve {G : Cx} (hG : am_G G) (N : Nat) (x1 : Int32) (σ : Sg) (r : Int32 × Sg) (h : f_X1_solve N x1 σ = some r) : am_Ct G 4 yX1_solve mX1_solve [.ref 7, .int x1] σ (am_qi r.1 r.2) := by
  refine am_enter hG rfl rfl (Nat.le_of_ble_eq_true rfl) ?_
  intro K h0 X
  unfold f_X1_solve at h
  refine am_jump (pc' := 0) (ls' := [some (.ref 7), some (.int x1), none, none, none]) ?_ rfl ⟨rfl, rfl, trivial⟩
  refine am_aload_n X dX1_solve_0 rfl rfl ?_
  refine am_iload_n X dX1_solve_1 rfl rfl ?_
  obtain ⟨σ2, hc, h⟩ := bd_some h
  refine am_callv_v1 X dX1_solve_2 cw_X1_67 (ct_X1_build hG N _ _ _ hc) (Nat.le_of_ble_eq_true rfl) rfl rfl rfl rfl (Nat.le_of_ble_eq_true rfl) ?_
  refine am_iconst (v := (0 : Int32)) X dX1_solve_5 (by decide) ?_
  refine am_istore_n (ls' := [some (.ref 7), some (.int x1), some (.int (0 : Int32)), none, none]) X dX1_solve_6 rfl (by decide)  rfl rfl ?_
  refine am_iconst (v := (0 : Int32)) X dX1_solve_7 (by decide) ?_
  refine am_istore_n (ls' := [some (.ref 7), some (.int x1), some (.int (0 : Int32)), some (.int (0 : Int32)), none]) X dX1_solve_8 rfl (by decide)  rfl rfl ?_
  exact am_jump (t_X1_solve_9 hG N N _ _ _ _ h K h0 X) rfl ⟨rfl, rfl, rfl, trivial⟩
set_option maxRecDepth 100000 in
set_option maxHeartbeats 4000000 in
theorem t_X6_cost_36 {G : Cx} (hG : am_G G) (N : Nat) (s1 : Int32) (σ : Sg) (r : Int32 × Sg) (h : b_X6_cost_36 N s1 σ = some r) : am_Wp G mX6_cost 5 (am_qi r.1 r.2) 36 [none, none] [.int s1, .ref 7] σ := by
  intro K h0 X
  unfold b_X6_cost_36 at h
  obtain ⟨v36, σ36, hc, h⟩ := bd2_some h
  refine am_callv_i1 X dX6_cost_36 cw_X6_156 (ct_X1_solve hG N _ _ _ hc) (Nat.le_of_ble_eq_true rfl) rfl rfl rfl rfl (Nat.le_of_ble_eq_true rfl) ?_
  obtain rfl := Option.some.inj h
  exact am_iret X h0 dX6_cost_39 rfl ⟨rfl, rfl⟩
set_option maxRecDepth 100000 in
set_option maxHeartbeats 4000000 in
theorem ct_X6_cost {G : Cx} (hG : am_G G) (N : Nat) (x1 : Int32) (σ : Sg) (r : Int32 × Sg) (h : f_X6_cost N x1 σ = some r) : am_Ct G 6 yX6_cost mX6_cost [.ref 0, .int x1] σ (am_qi r.1 r.2) := by
  refine am_enter hG rfl rfl (Nat.le_of_ble_eq_true rfl) ?_
  intro K h0 X
  unfold f_X6_cost at h
  refine am_jump (pc' := 0) (ls' := [some (.ref 0), some (.int x1)]) ?_ rfl ⟨rfl, rfl, trivial⟩
  refine am_iload_n X dX6_cost_0 rfl rfl ?_
  refine am_if_lt (tgt := 9) X dX6_cost_1 (by decide) (fun c => ?_) (fun c => ?_)
  · have h := if_t h c
    refine am_iconst (v := (-1 : Int32)) X dX6_cost_9 (by decide) ?_
    obtain rfl := Option.some.inj h
    exact am_iret X h0 dX6_cost_10 rfl ⟨rfl, rfl⟩
  · have h := if_f h c
    refine am_iload_n X dX6_cost_4 rfl rfl ?_
    refine am_iconst (v := (1 : Int32)) X dX6_cost_5 (by decide) ?_
    refine am_icmp_le (tgt := 11) X dX6_cost_6 (by decide) (fun c => ?_) (fun c => ?_)
    · have h := if_t h c
      refine am_aload_n X dX6_cost_11 rfl rfl ?_
      refine am_getf (v := .ref 7) X dX6_cost_12 fl_X6_35 rfl rfl (by decide) ?_
      refine am_aload_n X dX6_cost_15 rfl rfl ?_
      refine am_getf (v := .ref 1) X dX6_cost_16 fl_X6_12 rfl rfl (by decide) ?_
      obtain ⟨σ19, hc, h⟩ := bd_some h
      refine am_callv_v1 X dX6_cost_19 cw_X6_152 (ct_X1_load hG N _ _ hc) (Nat.le_of_ble_eq_true rfl) rfl rfl rfl rfl (Nat.le_of_ble_eq_true rfl) ?_
      refine am_aload_n X dX6_cost_22 rfl rfl ?_
      refine am_getf (v := .ref 7) X dX6_cost_23 fl_X6_35 rfl rfl (by decide) ?_
      refine am_iload_n X dX6_cost_26 rfl rfl ?_
      refine am_iconst (v := (1 : Int32)) X dX6_cost_27 (by decide) ?_
      refine am_icmp_ne (tgt := 35) X dX6_cost_28 (by decide) (fun c => ?_) (fun c => ?_)
      · have h := if_f h c
        refine am_iconst (v := (0 : Int32)) X dX6_cost_35 (by decide) ?_
        exact am_jump (t_X6_cost_36 hG N _ _ _ h K h0 X) rfl trivial
      · have h := if_t h c
        refine am_iconst (v := (1 : Int32)) X dX6_cost_31 (by decide) ?_
        refine am_goto (tgt := 36) X dX6_cost_32 (by decide) ?_
        exact am_jump (t_X6_cost_36 hG N _ _ _ h K h0 X) rfl trivial
    · have h := if_f h c
      refine am_iconst (v := (-1 : Int32)) X dX6_cost_9 (by decide) ?_
      obtain rfl := Option.some.inj h
      exact am_iret X h0 dX6_cost_10 rfl ⟨rfl, rfl⟩
set_option maxRecDepth 100000 in
set_option maxHeartbeats 4000000 in
theorem ct_X6_count {G : Cx} (hG : am_G G) (N : Nat) (x1 : Int32) (σ : Sg) (r : Int32 × Sg) (h : f_X6_count N x1 σ = some r) : am_Ct G 1 yX6_count mX6_count [.ref 0, .int x1] σ (am_qi r.1 r.2) := by
  refine am_enter hG rfl rfl (Nat.le_of_ble_eq_true rfl) ?_
  intro K h0 X
  unfold f_X6_count at h
  refine am_jump (pc' := 0) (ls' := [some (.ref 0), some (.int x1)]) ?_ rfl ⟨rfl, rfl, trivial⟩
  refine am_iload_n X dX6_count_0 rfl rfl ?_
  by_cases c0 : x1 = (0 : Int32)
  · have h := if_t h c0
    refine am_tabIn (tgt := 36) X dX6_count_1 c0 (by decide) (by decide) rfl (by decide) ?_
    refine am_aload_n X dX6_count_36 rfl rfl ?_
    refine am_getf (v := .ref 1) X dX6_count_37 fl_X6_12 rfl rfl (by decide) ?_
    refine am_getf (v := .int (rg σ 1 0)) X dX6_count_40 fl_X6_84 rfl rfl (by decide) ?_
    obtain rfl := Option.some.inj h
    exact am_iret X h0 dX6_count_43 rfl ⟨rfl, rfl⟩
  have h := if_f h c0
  by_cases c1 : x1 = (1 : Int32)
  · have h := if_t h c1
    refine am_tabIn (tgt := 44) X dX6_count_1 c1 (by decide) (by decide) rfl (by decide) ?_
    refine am_aload_n X dX6_count_44 rfl rfl ?_
    refine am_getf (v := .ref 1) X dX6_count_45 fl_X6_12 rfl rfl (by decide) ?_
    refine am_getf (v := .int (rg σ 1 9)) X dX6_count_48 fl_X6_61 rfl rfl (by decide) ?_
    obtain rfl := Option.some.inj h
    exact am_iret X h0 dX6_count_51 rfl ⟨rfl, rfl⟩
  have h := if_f h c1
  by_cases c2 : x1 = (2 : Int32)
  · have h := if_t h c2
    refine am_tabIn (tgt := 52) X dX6_count_1 c2 (by decide) (by decide) rfl (by decide) ?_
    refine am_aload_n X dX6_count_52 rfl rfl ?_
    refine am_getf (v := .ref 1) X dX6_count_53 fl_X6_12 rfl rfl (by decide) ?_
    refine am_getf (v := .int (rg σ 1 11)) X dX6_count_56 fl_X6_193 rfl rfl (by decide) ?_
    obtain rfl := Option.some.inj h
    exact am_iret X h0 dX6_count_59 rfl ⟨rfl, rfl⟩
  have h := if_f h c2
  by_cases c3 : x1 = (3 : Int32)
  · have h := if_t h c3
    refine am_tabIn (tgt := 60) X dX6_count_1 c3 (by decide) (by decide) rfl (by decide) ?_
    refine am_aload_n X dX6_count_60 rfl rfl ?_
    refine am_getf (v := .ref 1) X dX6_count_61 fl_X6_12 rfl rfl (by decide) ?_
    refine am_getf (v := .int (rg σ 1 7)) X dX6_count_64 fl_X6_53 rfl rfl (by decide) ?_
    obtain rfl := Option.some.inj h
    exact am_iret X h0 dX6_count_67 rfl ⟨rfl, rfl⟩
  have h := if_f h c3
  by_cases c4 : x1 = (4 : Int32)
  · have h := if_t h c4
    refine am_tabIn (tgt := 68) X dX6_count_1 c4 (by decide) (by decide) rfl (by decide) ?_
    refine am_aload_n X dX6_count_68 rfl rfl ?_
    refine am_getf (v := .ref 9) X dX6_count_69 fl_X6_49 rfl rfl (by decide) ?_
    refine am_getf (v := .int (rg σ 9 0)) X dX6_count_72 fl_X6_215 rfl rfl (by decide) ?_
    obtain rfl := Option.some.inj h
    exact am_iret X h0 dX6_count_75 rfl ⟨rfl, rfl⟩
  have h := if_f h c4
  refine am_tabOut (tgt := 76) (vs := [(0 : Int32), (1 : Int32), (2 : Int32), (3 : Int32), (4 : Int32)]) X dX6_count_1 (List.forall_mem_cons.mpr ⟨c0, (List.forall_mem_cons.mpr ⟨c1, (List.forall_mem_cons.mpr ⟨c2, (List.forall_mem_cons.mpr ⟨c3, (List.forall_mem_cons.mpr ⟨c4, (fun _ h => absurd h List.not_mem_nil)⟩)⟩)⟩)⟩)⟩) (by decide) (by decide) ?_
  refine am_iconst (v := (-1 : Int32)) X dX6_count_76 (by decide) ?_
  obtain rfl := Option.some.inj h
  exact am_iret X h0 dX6_count_77 rfl ⟨rfl, rfl⟩
set_option maxRecDepth 100000 in
set_option maxHeartbeats 4000000 in
theorem ct_X6_day {G : Cx} (hG : am_G G) (N : Nat) (x1 : Int32) (σ : Sg) (r : Int32 × Sg) (h : f_X6_day N x1 σ = some r) : am_Ct G 1 yX6_day mX6_day [.ref 0, .int x1] σ (am_qi r.1 r.2) := by
  refine am_enter hG rfl rfl (Nat.le_of_ble_eq_true rfl) ?_
  intro K h0 X
  unfold f_X6_day at h
  refine am_jump (pc' := 0) (ls' := [some (.ref 0), some (.int x1), none]) ?_ rfl ⟨rfl, rfl, trivial⟩
  refine am_iload_n X dX6_day_0 rfl rfl ?_
  refine am_if_lt (tgt := 10) X dX6_day_1 (by decide) (fun c => ?_) (fun c => ?_)
  · have h := if_t h c
    refine am_bipush (v := (-2 : Int32)) X dX6_day_10 (by decide) ?_
    obtain rfl := Option.some.inj h
    exact am_iret X h0 dX6_day_12 rfl ⟨rfl, rfl⟩
  · have h := if_f h c
    refine am_iload_n X dX6_day_4 rfl rfl ?_
    refine am_bipush (v := (99 : Int32)) X dX6_day_5 (by decide) ?_
    refine am_icmp_le (tgt := 13) X dX6_day_7 (by decide) (fun c => ?_) (fun c => ?_)
    · have h := if_t h c
      refine am_aload_n X dX6_day_13 rfl rfl ?_
      refine am_getf (v := .ref 1) X dX6_day_14 fl_X6_12 rfl rfl (by decide) ?_
      refine am_getf (v := .int (rg σ 1 6)) X dX6_day_17 fl_X6_81 rfl rfl (by decide) ?_
      refine am_topi h (fun x2_20 h => ?_)
      refine am_istore_n (ls' := [some (.ref 0), some (.int x1), some (.int x2_20)]) X dX6_day_20 rfl (by decide)  rfl rfl ?_
      refine am_aload_n X dX6_day_21 rfl rfl ?_
      refine am_getf (v := .ref 1) X dX6_day_22 fl_X6_12 rfl rfl (by decide) ?_
      refine am_iload_n X dX6_day_25 rfl rfl ?_
      refine am_putfi X dX6_day_26 fp_X6_81 rfl rfl ?_
      refine am_tops h (fun σ26 h => ?_)
      refine am_iload_n X dX6_day_29 rfl rfl ?_
      obtain rfl := Option.some.inj h
      exact am_iret X h0 dX6_day_30 rfl ⟨rfl, rfl⟩
    · have h := if_f h c
      refine am_bipush (v := (-2 : Int32)) X dX6_day_10 (by decide) ?_
      obtain rfl := Option.some.inj h
      exact am_iret X h0 dX6_day_12 rfl ⟨rfl, rfl⟩
set_option maxRecDepth 100000 in
set_option maxHeartbeats 4000000 in
theorem ct_X3_price {G : Cx} (hG : am_G G) (N : Nat) (x1 : Int32) (x2 : Int32) (σ : Sg) (r : Int32 × Sg) (h : f_X3_price N x1 x2 σ = some r) : am_Ct G 1 yX3_price mX3_price [.ref 8, .int x1, .int x2] σ (am_qi r.1 r.2) := by
  refine am_enter hG rfl rfl (Nat.le_of_ble_eq_true rfl) ?_
  intro K h0 X
  unfold f_X3_price at h
  refine am_jump (pc' := 0) (ls' := [some (.ref 8), some (.int x1), some (.int x2)]) ?_ rfl ⟨rfl, rfl, rfl, trivial⟩
  refine am_aload_n X dX3_price_0 rfl rfl ?_
  refine am_getf (v := .ref 55) X dX3_price_1 fl_X3_15 rfl rfl (by decide) ?_
  refine am_iload_n X dX3_price_4 rfl rfl ?_
  refine am_bipush (v := (7 : Int32)) X dX3_price_5 (by decide) ?_
  refine am_imul X dX3_price_7 ?_
  refine am_iload_n X dX3_price_8 rfl rfl ?_
  refine am_iadd X dX3_price_9 ?_
  obtain ⟨g, h⟩ := gd_some h
  refine am_iald X dX3_price_10 rfl g ?_
  obtain rfl := Option.some.inj h
  exact am_iret X h0 dX3_price_11 rfl ⟨rfl, rfl⟩
set_option maxRecDepth 100000 in
set_option maxHeartbeats 4000000 in
theorem t_X3_load_129b {G : Cx} (hG : am_G G) (N : Nat) (k108 : Int32 → Sg → Option (Sg)) (k118 : Int32 → Int32 → Sg → Option (Sg)) (k129 : Int32 → Int32 → Int32 → Sg → Option (Sg)) (hk108 : ∀ (x2 : Int32) (σ : Sg) (r : Sg), k108 x2 σ = some r → am_Wp G mX3_load 4 (am_qv r) 108 [some (.ref 8), none, some (.int x2), none, none, none] [] σ) (hk118 : ∀ (x2 : Int32) (x3 : Int32) (σ : Sg) (r : Sg), k118 x2 x3 σ = some r → am_Wp G mX3_load 4 (am_qv r) 118 [some (.ref 8), none, some (.int x2), some (.int x3), none, none] [] σ) (hk129 : ∀ (x2 : Int32) (x3 : Int32) (x4 : Int32) (σ : Sg) (r : Sg), k129 x2 x3 x4 σ = some r → am_Wp G mX3_load 4 (am_qv r) 129 [some (.ref 8), none, some (.int x2), some (.int x3), some (.int x4), none] [] σ) (x2 : Int32) (x3 : Int32) (x4 : Int32) (σ : Sg) (r : Sg) (h : b_X3_load_129b N k108 k118 k129 x2 x3 x4 σ = some r) : am_Wp G mX3_load 4 (am_qv r) 129 [some (.ref 8), none, some (.int x2), some (.int x3), some (.int x4), none] [] σ := by
  intro K h0 X
  unfold b_X3_load_129b at h
  refine am_iload X dX3_load_129 rfl ?_
  refine am_aload_n X dX3_load_131 rfl rfl ?_
  refine am_getf (v := .int (rg σ 8 0)) X dX3_load_132 fl_X3_34 rfl rfl (by decide) ?_
  refine am_icmp_ge (tgt := 184) X dX3_load_135 (by decide) (fun c => ?_) (fun c => ?_)
  · have h := if_t h c
    refine am_iinc (ls' := fun x3_184 => [some (.ref 8), none, some (.int x2), some (.int x3_184), some (.int x4), none]) X dX3_load_184 rfl h (by decide) (by decide) rfl (fun _ => rfl) (fun x3_184 h => ?_)
    refine am_goto (tgt := 118) X dX3_load_187 (by decide) ?_
    exact am_jump (hk118 _ _ _ _ h K h0 X) rfl ⟨rfl, rfl, rfl, trivial⟩
  · have h := if_f h c
    refine am_aload_n X dX3_load_138 rfl rfl ?_
    refine am_iload_n X dX3_load_139 rfl rfl ?_
    refine am_iload_n X dX3_load_140 rfl rfl ?_
    obtain ⟨v141, σ141, hc, h⟩ := bd2_some h
    refine am_callv_i2 X dX3_load_141 cw_X3_43 (ct_X3_price hG N _ _ _ _ hc) (Nat.le_of_ble_eq_true rfl) rfl rfl rfl rfl (Nat.le_of_ble_eq_true rfl) ?_
    refine am_aload_n X dX3_load_144 rfl rfl ?_
    refine am_iload_n X dX3_load_145 rfl rfl ?_
    refine am_iload X dX3_load_146 rfl ?_
    obtain ⟨v148, σ148, hc, h⟩ := bd2_some h
    refine am_callv_i2 X dX3_load_148 cw_X3_43 (ct_X3_price hG N _ _ _ _ hc) (Nat.le_of_ble_eq_true rfl) rfl rfl rfl rfl (Nat.le_of_ble_eq_true rfl) ?_
    refine am_iadd X dX3_load_151 ?_
    refine am_topi h (fun x5_152 h => ?_)
    refine am_istore (ls' := [some (.ref 8), none, some (.int x2), some (.int x3), some (.int x4), some (.int x5_152)]) X dX3_load_152 (by decide)  rfl rfl ?_
    refine am_aload_n X dX3_load_154 rfl rfl ?_
    refine am_getf (v := .ref 55) X dX3_load_155 fl_X3_15 rfl rfl (by decide) ?_
    refine am_iload_n X dX3_load_158 rfl rfl ?_
    refine am_bipush (v := (7 : Int32)) X dX3_load_159 (by decide) ?_
    refine am_imul X dX3_load_161 ?_
    refine am_iload X dX3_load_162 rfl ?_
    refine am_iadd X dX3_load_164 ?_
    refine am_aload_n X dX3_load_165 rfl rfl ?_
    refine am_iload_n X dX3_load_166 rfl rfl ?_
    refine am_iload X dX3_load_167 rfl ?_
    obtain ⟨v169, σ169, hc, h⟩ := bd2_some h
    refine am_callv_i2 X dX3_load_169 cw_X3_43 (ct_X3_price hG N _ _ _ _ hc) (Nat.le_of_ble_eq_true rfl) rfl rfl rfl rfl (Nat.le_of_ble_eq_true rfl) ?_
    refine am_iload X dX3_load_172 rfl ?_
    refine am_min X dX3_load_174 (wm_r29 _ (List.mem_of_getElem? (i := 19) rfl)) ⟨Nat.le_add_left 1 _, Nat.le_of_ble_eq_true rfl⟩ ?_
    obtain ⟨g, h⟩ := gd_some h
    refine am_iast X dX3_load_177 rfl g ?_
    refine am_tops h (fun σ177 h => ?_)
    refine am_iinc (ls' := fun x4_178 => [some (.ref 8), none, some (.int x2), some (.int x3), some (.int x4_178), some (.int x5_152)]) X dX3_load_178 rfl h (by decide) (by decide) rfl (fun _ => rfl) (fun x4_178 h => ?_)
    refine am_goto (tgt := 129) X dX3_load_181 (by decide) ?_
    exact am_jump (hk129 _ _ _ _ _ h K h0 X) rfl ⟨rfl, rfl, rfl, rfl, trivial⟩
set_option maxRecDepth 100000 in
set_option maxHeartbeats 4000000 in
theorem t_X3_load_129 {G : Cx} (hG : am_G G) (N : Nat) (k108 : Int32 → Sg → Option (Sg)) (k118 : Int32 → Int32 → Sg → Option (Sg)) (hk108 : ∀ (x2 : Int32) (σ : Sg) (r : Sg), k108 x2 σ = some r → am_Wp G mX3_load 4 (am_qv r) 108 [some (.ref 8), none, some (.int x2), none, none, none] [] σ) (hk118 : ∀ (x2 : Int32) (x3 : Int32) (σ : Sg) (r : Sg), k118 x2 x3 σ = some r → am_Wp G mX3_load 4 (am_qv r) 118 [some (.ref 8), none, some (.int x2), some (.int x3), none, none] [] σ) : ∀ (n : Nat) (x2 : Int32) (x3 : Int32) (x4 : Int32) (σ : Sg) (r : Sg), b_X3_load_129 N k108 k118 n x2 x3 x4 σ = some r → am_Wp G mX3_load 4 (am_qv r) 129 [some (.ref 8), none, some (.int x2), some (.int x3), some (.int x4), none] [] σ := by
  intro n
  induction n with
  | zero => intro x2 x3 x4 σ r h; cases h
  | succ n ih => intro x2 x3 x4 σ r h; exact t_X3_load_129b hG N k108 k118 (b_X3_load_129 N k108 k118 n) hk108 hk118 ih x2 x3 x4 σ r h
set_option maxRecDepth 100000 in
set_option maxHeartbeats 4000000 in
theorem t_X3_load_118b {G : Cx} (hG : am_G G) (N : Nat) (k108 : Int32 → Sg → Option (Sg)) (k118 : Int32 → Int32 → Sg → Option (Sg)) (hk108 : ∀ (x2 : Int32) (σ : Sg) (r : Sg), k108 x2 σ = some r → am_Wp G mX3_load 4 (am_qv r) 108 [some (.ref 8), none, some (.int x2), none, none, none] [] σ) (hk118 : ∀ (x2 : Int32) (x3 : Int32) (σ : Sg) (r : Sg), k118 x2 x3 σ = some r → am_Wp G mX3_load 4 (am_qv r) 118 [some (.ref 8), none, some (.int x2), some (.int x3), none, none] [] σ) (x2 : Int32) (x3 : Int32) (σ : Sg) (r : Sg) (h : b_X3_load_118b N k108 k118 x2 x3 σ = some r) : am_Wp G mX3_load 4 (am_qv r) 118 [some (.ref 8), none, some (.int x2), some (.int x3), none, none] [] σ := by
  intro K h0 X
  unfold b_X3_load_118b at h
  refine am_iload_n X dX3_load_118 rfl rfl ?_
  refine am_aload_n X dX3_load_119 rfl rfl ?_
  refine am_getf (v := .int (rg σ 8 0)) X dX3_load_120 fl_X3_34 rfl rfl (by decide) ?_
  refine am_icmp_ge (tgt := 190) X dX3_load_123 (by decide) (fun c => ?_) (fun c => ?_)
  · have h := if_t h c
    refine am_iinc (ls' := fun x2_190 => [some (.ref 8), none, some (.int x2_190), some (.int x3), none, none]) X dX3_load_190 rfl h (by decide) (by decide) rfl (fun _ => rfl) (fun x2_190 h => ?_)
    refine am_goto (tgt := 108) X dX3_load_193 (by decide) ?_
    exact am_jump (hk108 _ _ _ h K h0 X) rfl ⟨rfl, rfl, trivial⟩
  · have h := if_f h c
    refine am_iconst (v := (0 : Int32)) X dX3_load_126 (by decide) ?_
    refine am_istore (ls' := [some (.ref 8), none, some (.int x2), some (.int x3), some (.int (0 : Int32)), none]) X dX3_load_127 (by decide)  rfl rfl ?_
    exact am_jump (t_X3_load_129 hG N k108 k118 hk108 hk118 N _ _ _ _ _ h K h0 X) rfl ⟨rfl, rfl, rfl, rfl, trivial⟩
set_option maxRecDepth 100000 in
set_option maxHeartbeats 4000000 in
theorem t_X3_load_118 {G : Cx} (hG : am_G G) (N : Nat) (k108 : Int32 → Sg → Option (Sg)) (hk108 : ∀ (x2 : Int32) (σ : Sg) (r : Sg), k108 x2 σ = some r → am_Wp G mX3_load 4 (am_qv r) 108 [some (.ref 8), none, some (.int x2), none, none, none] [] σ) : ∀ (n : Nat) (x2 : Int32) (x3 : Int32) (σ : Sg) (r : Sg), b_X3_load_118 N k108 n x2 x3 σ = some r → am_Wp G mX3_load 4 (am_qv r) 118 [some (.ref 8), none, some (.int x2), some (.int x3), none, none] [] σ := by
  intro n
  induction n with
  | zero => intro x2 x3 σ r h; cases h
  | succ n ih => intro x2 x3 σ r h; exact t_X3_load_118b hG N k108 (b_X3_load_118 N k108 n) hk108 ih x2 x3 σ r h
set_option maxRecDepth 100000 in
set_option maxHeartbeats 4000000 in
theorem t_X3_load_108b {G : Cx} (hG : am_G G) (N : Nat) (k108 : Int32 → Sg → Option (Sg)) (hk108 : ∀ (x2 : Int32) (σ : Sg) (r : Sg), k108 x2 σ = some r → am_Wp G mX3_load 4 (am_qv r) 108 [some (.ref 8), none, some (.int x2), none, none, none] [] σ) (x2 : Int32) (σ : Sg) (r : Sg) (h : b_X3_load_108b N k108 x2 σ = some r) : am_Wp G mX3_load 4 (am_qv r) 108 [some (.ref 8), none, some (.int x2), none, none, none] [] σ := by
  intro K h0 X
  unfold b_X3_load_108b at h
  refine am_iload_n X dX3_load_108 rfl rfl ?_
  refine am_aload_n X dX3_load_109 rfl rfl ?_
  refine am_getf (v := .int (rg σ 8 0)) X dX3_load_110 fl_X3_34 rfl rfl (by decide) ?_
  refine am_icmp_ge (tgt := 196) X dX3_load_113 (by decide) (fun c => ?_) (fun c => ?_)
  · have h := if_t h c
    obtain rfl := Option.some.inj h
    exact am_vret X h0 dX3_load_196 rfl ⟨rfl, rfl⟩
  · have h := if_f h c
    refine am_iconst (v := (0 : Int32)) X dX3_load_116 (by decide) ?_
    refine am_istore_n (ls' := [some (.ref 8), none, some (.int x2), some (.int (0 : Int32)), none, none]) X dX3_load_117 rfl (by decide)  rfl rfl ?_
    exact am_jump (t_X3_load_118 hG N k108 hk108 N _ _ _ _ h K h0 X) rfl ⟨rfl, rfl, rfl, trivial⟩
set_option maxRecDepth 100000 in
set_option maxHeartbeats 4000000 in
theorem t_X3_load_108 {G : Cx} (hG : am_G G) (N : Nat) : ∀ (n : Nat) (x2 : Int32) (σ : Sg) (r : Sg), b_X3_load_108 N n x2 σ = some r → am_Wp G mX3_load 4 (am_qv r) 108 [some (.ref 8), none, some (.int x2), none, none, none] [] σ := by
  intro n
  induction n with
  | zero => intro x2 σ r h; cases h
  | succ n ih => intro x2 σ r h; exact t_X3_load_108b hG N (b_X3_load_108 N n) ih x2 σ r h
set_option maxRecDepth 100000 in
set_option maxHeartbeats 4000000 in
theorem t_X3_load_93 {G : Cx} (hG : am_G G) (N : Nat) (k10 : Int32 → Sg → Option (Sg)) (k38 : Int32 → Int32 → Int32 → Sg → Option (Sg)) (hk10 : ∀ (x2 : Int32) (σ : Sg) (r : Sg), k10 x2 σ = some r → am_Wp G mX3_load 4 (am_qv r) 10 [some (.ref 8), some (.ref 1), some (.int x2), none, none, none] [] σ) (hk38 : ∀ (x2 : Int32) (x3 : Int32) (x4 : Int32) (σ : Sg) (r : Sg), k38 x2 x3 x4 σ = some r → am_Wp G mX3_load 4 (am_qv r) 38 [some (.ref 8), some (.ref 1), some (.int x2), some (.int x3), some (.int x4), none] [] σ) (x2 : Int32) (x3 : Int32) (x4 : Int32) (s1 : Int32) (s2 : Int32) (σ : Sg) (r : Sg) (h : b_X3_load_93 N k10 k38 x2 x3 x4 s1 s2 σ = some r) : am_Wp G mX3_load 4 (am_qv r) 93 [some (.ref 8), some (.ref 1), some (.int x2), some (.int x3), some (.int x4), none] [.int s2, .int s1, .ref 55] σ := by
  intro K h0 X
  unfold b_X3_load_93 at h
  obtain ⟨g, h⟩ := gd_some h
  refine am_iast X dX3_load_93 rfl g ?_
  refine am_tops h (fun σ93 h => ?_)
  refine am_iinc (ls' := fun x4_94 => [some (.ref 8), some (.ref 1), some (.int x2), some (.int x3), some (.int x4_94), none]) X dX3_load_94 rfl h (by decide) (by decide) rfl (fun _ => rfl) (fun x4_94 h => ?_)
  refine am_goto (tgt := 38) X dX3_load_97 (by decide) ?_
  exact am_jump (hk38 _ _ _ _ _ h K h0 X) rfl ⟨rfl, rfl, rfl, rfl, rfl, trivial⟩
set_option maxRecDepth 100000 in
set_option maxHeartbeats 4000000 in
theorem t_X3_load_68 {G : Cx} (hG : am_G G) (N : Nat) (k10 : Int32 → Sg → Option (Sg)) (k38 : Int32 → Int32 → Int32 → Sg → Option (Sg)) (hk10 : ∀ (x2 : Int32) (σ : Sg) (r : Sg), k10 x2 σ = some r → am_Wp G mX3_load 4 (am_qv r) 10 [some (.ref 8), some (.ref 1), some (.int x2), none, none, none] [] σ) (hk38 : ∀ (x2 : Int32) (x3 : Int32) (x4 : Int32) (σ : Sg) (r : Sg), k38 x2 x3 x4 σ = some r → am_Wp G mX3_load 4 (am_qv r) 38 [some (.ref 8), some (.ref 1), some (.int x2), some (.int x3), some (.int x4), none] [] σ) (x2 : Int32) (x3 : Int32) (x4 : Int32) (s0 : Int32) (σ : Sg) (r : Sg) (h : b_X3_load_68 N k10 k38 x2 x3 x4 s0 σ = some r) : am_Wp G mX3_load 4 (am_qv r) 68 [some (.ref 8), some (.ref 1), some (.int x2), some (.int x3), some (.int x4), none] [.int s0] σ := by
  intro K h0 X
  unfold b_X3_load_68 at h
  refine am_istore (ls' := [some (.ref 8), some (.ref 1), some (.int x2), some (.int x3), some (.int x4), some (.int s0)]) X dX3_load_68 (by decide)  rfl rfl ?_
  refine am_aload_n X dX3_load_70 rfl rfl ?_
  refine am_getf (v := .ref 55) X dX3_load_71 fl_X3_15 rfl rfl (by decide) ?_
  refine am_iload_n X dX3_load_74 rfl rfl ?_
  refine am_bipush (v := (7 : Int32)) X dX3_load_75 (by decide) ?_
  refine am_imul X dX3_load_77 ?_
  refine am_iload X dX3_load_78 rfl ?_
  refine am_iadd X dX3_load_80 ?_
  refine am_iload_n X dX3_load_81 rfl rfl ?_
  refine am_iload X dX3_load_82 rfl ?_
  refine am_icmp_ne (tgt := 91) X dX3_load_84 (by decide) (fun c => ?_) (fun c => ?_)
  · have h := if_f h c
    refine am_iload X dX3_load_91 rfl ?_
    exact am_jump (t_X3_load_93 hG N k10 k38 hk10 hk38 _ _ _ _ _ _ _ h K h0 X) rfl ⟨rfl, rfl, rfl, rfl, rfl, trivial⟩
  · have h := if_t h c
    refine am_iconst (v := (0 : Int32)) X dX3_load_87 (by decide) ?_
    refine am_goto (tgt := 93) X dX3_load_88 (by decide) ?_
    exact am_jump (t_X3_load_93 hG N k10 k38 hk10 hk38 _ _ _ _ _ _ _ h K h0 X) rfl ⟨rfl, rfl, rfl, rfl, rfl, trivial⟩
set_option maxRecDepth 100000 in
set_option maxHeartbeats 4000000 in
theorem t_X3_load_38b {G : Cx} (hG : am_G G) (N : Nat) (k10 : Int32 → Sg → Option (Sg)) (k38 : Int32 → Int32 → Int32 → Sg → Option (Sg)) (hk10 : ∀ (x2 : Int32) (σ : Sg) (r : Sg), k10 x2 σ = some r → am_Wp G mX3_load 4 (am_qv r) 10 [some (.ref 8), some (.ref 1), some (.int x2), none, none, none] [] σ) (hk38 : ∀ (x2 : Int32) (x3 : Int32) (x4 : Int32) (σ : Sg) (r : Sg), k38 x2 x3 x4 σ = some r → am_Wp G mX3_load 4 (am_qv r) 38 [some (.ref 8), some (.ref 1), some (.int x2), some (.int x3), some (.int x4), none] [] σ) (x2 : Int32) (x3 : Int32) (x4 : Int32) (σ : Sg) (r : Sg) (h : b_X3_load_38b N k10 k38 x2 x3 x4 σ = some r) : am_Wp G mX3_load 4 (am_qv r) 38 [some (.ref 8), some (.ref 1), some (.int x2), some (.int x3), some (.int x4), none] [] σ := by
  intro K h0 X
  unfold b_X3_load_38b at h
  refine am_iload X dX3_load_38 rfl ?_
  refine am_aload_n X dX3_load_40 rfl rfl ?_
  refine am_getf (v := .int (rg σ 8 0)) X dX3_load_41 fl_X3_34 rfl rfl (by decide) ?_
  refine am_icmp_ge (tgt := 100) X dX3_load_44 (by decide) (fun c => ?_) (fun c => ?_)
  · have h := if_t h c
    refine am_iinc (ls' := fun x2_100 => [some (.ref 8), some (.ref 1), some (.int x2_100), some (.int x3), some (.int x4), none]) X dX3_load_100 rfl h (by decide) (by decide) rfl (fun _ => rfl) (fun x2_100 h => ?_)
    refine am_goto (tgt := 10) X dX3_load_103 (by decide) ?_
    exact am_jump (hk10 _ _ _ h K h0 X) rfl ⟨rfl, rfl, rfl, trivial⟩
  · have h := if_f h c
    refine am_aload_n X dX3_load_47 rfl rfl ?_
    refine am_getf (v := .ref 54) X dX3_load_48 fl_X3_9 rfl rfl (by decide) ?_
    refine am_iload_n X dX3_load_51 rfl rfl ?_
    obtain ⟨g, h⟩ := gd_some h
    refine am_iald X dX3_load_52 rfl g ?_
    refine am_iload X dX3_load_53 rfl ?_
    refine am_ishr X dX3_load_55 ?_
    refine am_iconst (v := (1 : Int32)) X dX3_load_56 (by decide) ?_
    refine am_iand X dX3_load_57 ?_
    refine am_iconst (v := (1 : Int32)) X dX3_load_58 (by decide) ?_
    refine am_icmp_ne (tgt := 66) X dX3_load_59 (by decide) (fun c => ?_) (fun c => ?_)
    · have h := if_f h c
      refine am_ldc (v := (1000000 : Int32)) X dX3_load_66 (wm_r29 _ (List.mem_of_getElem? (i := 18) rfl)) ?_
      exact am_jump (t_X3_load_68 hG N k10 k38 hk10 hk38 _ _ _ _ _ _ h K h0 X) rfl ⟨rfl, rfl, rfl, rfl, rfl, trivial⟩
    · have h := if_t h c
      refine am_iload_n X dX3_load_62 rfl rfl ?_
      refine am_goto (tgt := 68) X dX3_load_63 (by decide) ?_
      exact am_jump (t_X3_load_68 hG N k10 k38 hk10 hk38 _ _ _ _ _ _ h K h0 X) rfl ⟨rfl, rfl, rfl, rfl, rfl, trivial⟩
set_option maxRecDepth 100000 in
set_option maxHeartbeats 4000000 in
theorem t_X3_load_38 {G : Cx} (hG : am_G G) (N : Nat) (k10 : Int32 → Sg → Option (Sg)) (hk10 : ∀ (x2 : Int32) (σ : Sg) (r : Sg), k10 x2 σ = some r → am_Wp G mX3_load 4 (am_qv r) 10 [some (.ref 8), some (.ref 1), some (.int x2), none, none, none] [] σ) : ∀ (n : Nat) (x2 : Int32) (x3 : Int32) (x4 : Int32) (σ : Sg) (r : Sg), b_X3_load_38 N k10 n x2 x3 x4 σ = some r → am_Wp G mX3_load 4 (am_qv r) 38 [some (.ref 8), some (.ref 1), some (.int x2), some (.int x3), some (.int x4), none] [] σ := by
  intro n
  induction n with
  | zero => intro x2 x3 x4 σ r h; cases h
  | succ n ih => intro x2 x3 x4 σ r h; exact t_X3_load_38b hG N k10 (b_X3_load_38 N k10 n) hk10 ih x2 x3 x4 σ r h
set_option maxRecDepth 100000 in
set_option maxHeartbeats 4000000 in
theorem t_X3_load_10b {G : Cx} (hG : am_G G) (N : Nat) (k10 : Int32 → Sg → Option (Sg)) (hk10 : ∀ (x2 : Int32) (σ : Sg) (r : Sg), k10 x2 σ = some r → am_Wp G mX3_load 4 (am_qv r) 10 [some (.ref 8), some (.ref 1), some (.int x2), none, none, none] [] σ) (x2 : Int32) (σ : Sg) (r : Sg) (h : b_X3_load_10b N k10 x2 σ = some r) : am_Wp G mX3_load 4 (am_qv r) 10 [some (.ref 8), some (.ref 1), some (.int x2), none, none, none] [] σ := by
  intro K h0 X
  unfold b_X3_load_10b at h
  refine am_iload_n X dX3_load_10 rfl rfl ?_
  refine am_aload_n X dX3_load_11 rfl rfl ?_
  refine am_getf (v := .int (rg σ 8 0)) X dX3_load_12 fl_X3_34 rfl rfl (by decide) ?_
  refine am_icmp_ge (tgt := 106) X dX3_load_15 (by decide) (fun c => ?_) (fun c => ?_)
  · have h := if_t h c
    refine am_iconst (v := (0 : Int32)) X dX3_load_106 (by decide) ?_
    refine am_istore_n (ls' := [some (.ref 8), some (.ref 1), some (.int (0 : Int32)), none, none, none]) X dX3_load_107 rfl (by decide)  rfl rfl ?_
    exact am_jump (t_X3_load_108 hG N N _ _ _ h K h0 X) rfl ⟨rfl, rfl, trivial⟩
  · have h := if_f h c
    refine am_aload_n X dX3_load_18 rfl rfl ?_
    refine am_getf (v := .ref 54) X dX3_load_19 fl_X3_9 rfl rfl (by decide) ?_
    refine am_iload_n X dX3_load_22 rfl rfl ?_
    refine am_aload_n X dX3_load_23 rfl rfl ?_
    refine am_iload_n X dX3_load_24 rfl rfl ?_
    obtain ⟨v25, σ25, hc, h⟩ := bd2_some h
    refine am_callv_i1 X dX3_load_25 cw_X3_35 (ct_X4_openFrom hG N _ _ _ hc) (Nat.le_of_ble_eq_true rfl) rfl rfl rfl rfl (Nat.le_of_ble_eq_true rfl) ?_
    obtain ⟨g, h⟩ := gd_some h
    refine am_iast X dX3_load_28 rfl g ?_
    refine am_tops h (fun σ28 h => ?_)
    refine am_aload_n X dX3_load_29 rfl rfl ?_
    refine am_iload_n X dX3_load_30 rfl rfl ?_
    obtain ⟨v31, σ31, hc, h⟩ := bd2_some h
    refine am_callv_i1 X dX3_load_31 cw_X3_39 (ct_X4_step hG N _ _ _ hc) (Nat.le_of_ble_eq_true rfl) rfl rfl rfl rfl (Nat.le_of_ble_eq_true rfl) ?_
    refine am_istore_n (ls' := [some (.ref 8), some (.ref 1), some (.int x2), some (.int v31), none, none]) X dX3_load_34 rfl (by decide)  rfl rfl ?_
    refine am_iconst (v := (0 : Int32)) X dX3_load_35 (by decide) ?_
    refine am_istore (ls' := [some (.ref 8), some (.ref 1), some (.int x2), some (.int v31), some (.int (0 : Int32)), none]) X dX3_load_36 (by decide)  rfl rfl ?_
    exact am_jump (t_X3_load_38 hG N k10 hk10 N _ _ _ _ _ h K h0 X) rfl ⟨rfl, rfl, rfl, rfl, rfl, trivial⟩
set_option maxRecDepth 100000 in
set_option maxHeartbeats 4000000 in
theorem t_X3_load_10 {G : Cx} (hG : am_G G) (N : Nat) : ∀ (n : Nat) (x2 : Int32) (σ : Sg) (r : Sg), b_X3_load_10 N n x2 σ = some r → am_Wp G mX3_load 4 (am_qv r) 10 [some (.ref 8), some (.ref 1), some (.int x2), none, none, none] [] σ := by
  intro n
  induction n with
  | zero => intro x2 σ r h; cases h
  | succ n ih => intro x2 σ r h; exact t_X3_load_10b hG N (b_X3_load_10 N n) ih x2 σ r h
set_option maxRecDepth 100000 in
set_option maxHeartbeats 4000000 in
theorem ct_X3_load {G : Cx} (hG : am_G G) (N : Nat) (σ : Sg) (r : Sg) (h : f_X3_load N σ = some r) : am_Ct G 5 yX3_load mX3_load [.ref 8, .ref 1] σ (am_qv r) := by
  refine am_enter hG rfl rfl (Nat.le_of_ble_eq_true rfl) ?_
  intro K h0 X
  unfold f_X3_load at h
  refine am_jump (pc' := 0) (ls' := [some (.ref 8), some (.ref 1), none, none, none, none]) ?_ rfl ⟨rfl, rfl, trivial⟩
  refine am_aload_n X dX3_load_0 rfl rfl ?_
  refine am_aload_n X dX3_load_1 rfl rfl ?_
  refine am_getf (v := .int (rg σ 1 0)) X dX3_load_2 fl_X3_28 rfl rfl (by decide) ?_
  refine am_putfi X dX3_load_5 fp_X3_34 rfl rfl ?_
  refine am_tops h (fun σ5 h => ?_)
  refine am_iconst (v := (0 : Int32)) X dX3_load_8 (by decide) ?_
  refine am_istore_n (ls' := [some (.ref 8), some (.ref 1), some (.int (0 : Int32)), none, none, none]) X dX3_load_9 rfl (by decide)  rfl rfl ?_
  exact am_jump (t_X3_load_10 hG N N _ _ _ h K h0 X) rfl ⟨rfl, rfl, rfl, trivial⟩
set_option maxRecDepth 100000 in
set_option maxHeartbeats 4000000 in
theorem ct_X3_restBy {G : Cx} (hG : am_G G) (N : Nat) (x1 : Int32) (x2 : Int32) (x3 : Int32) (σ : Sg) (r : Int32 × Sg) (h : f_X3_restBy N x1 x2 x3 σ = some r) : am_Ct G 2 yX3_restBy mX3_restBy [.ref 8, .int x1, .int x2, .int x3] σ (am_qi r.1 r.2) := by
  refine am_enter hG rfl rfl (Nat.le_of_ble_eq_true rfl) ?_
  intro K h0 X
  unfold f_X3_restBy at h
  refine am_jump (pc' := 0) (ls' := [some (.ref 8), some (.int x1), some (.int x2), some (.int x3)]) ?_ rfl ⟨rfl, rfl, rfl, rfl, trivial⟩
  refine am_aload_n X dX3_restBy_0 rfl rfl ?_
  refine am_iload_n X dX3_restBy_1 rfl rfl ?_
  refine am_iload_n X dX3_restBy_2 rfl rfl ?_
  obtain ⟨v3, σ3, hc, h⟩ := bd2_some h
  refine am_callv_i2 X dX3_restBy_3 cw_X3_43 (ct_X3_price hG N _ _ _ _ hc) (Nat.le_of_ble_eq_true rfl) rfl rfl rfl rfl (Nat.le_of_ble_eq_true rfl) ?_
  refine am_aload_n X dX3_restBy_6 rfl rfl ?_
  refine am_getf (v := .ref 56) X dX3_restBy_7 fl_X3_18 rfl rfl (by decide) ?_
  refine am_iload_n X dX3_restBy_10 rfl rfl ?_
  refine am_iconst (v := (1 : Int32)) X dX3_restBy_11 (by decide) ?_
  refine am_iload_n X dX3_restBy_12 rfl rfl ?_
  refine am_ishl X dX3_restBy_13 ?_
  refine am_ixor X dX3_restBy_14 ?_
  refine am_bipush (v := (7 : Int32)) X dX3_restBy_15 (by decide) ?_
  refine am_imul X dX3_restBy_17 ?_
  refine am_iload_n X dX3_restBy_18 rfl rfl ?_
  refine am_iadd X dX3_restBy_19 ?_
  obtain ⟨g, h⟩ := gd_some h
  refine am_iald X dX3_restBy_20 rfl g ?_
  refine am_iadd X dX3_restBy_21 ?_
  obtain rfl := Option.some.inj h
  exact am_iret X h0 dX3_restBy_22 rfl ⟨rfl, rfl⟩
set_option maxRecDepth 100000 in
set_option maxHeartbeats 4000000 in
theorem t_X3_leastRest_38 {G : Cx} (hG : am_G G) (N : Nat) (k6 : Int32 → Int32 → Int32 → Int32 → Sg → Option (Int32 × Sg)) (hk6 : ∀ (x1 : Int32) (x2 : Int32) (x3 : Int32) (x4 : Int32) (σ : Sg) (r : Int32 × Sg), k6 x1 x2 x3 x4 σ = some r → am_Wp G mX3_leastRest 2 (am_qi r.1 r.2) 6 [some (.ref 8), some (.int x1), some (.int x2), some (.int x3), some (.int x4)] [] σ) (x1 : Int32) (x2 : Int32) (x3 : Int32) (x4 : Int32) (σ : Sg) (r : Int32 × Sg) (h : b_X3_leastRest_38 N k6 x1 x2 x3 x4 σ = some r) : am_Wp G mX3_leastRest 2 (am_qi r.1 r.2) 38 [some (.ref 8), some (.int x1), some (.int x2), some (.int x3), some (.int x4)] [] σ := by
  intro K h0 X
  unfold b_X3_leastRest_38 at h
  refine am_iinc (ls' := fun x4_38 => [some (.ref 8), some (.int x1), some (.int x2), some (.int x3), some (.int x4_38)]) X dX3_leastRest_38 rfl h (by decide) (by decide) rfl (fun _ => rfl) (fun x4_38 h => ?_)
  refine am_goto (tgt := 6) X dX3_leastRest_41 (by decide) ?_
  exact am_jump (hk6 _ _ _ _ _ _ h K h0 X) rfl ⟨rfl, rfl, rfl, rfl, rfl, trivial⟩
set_option maxRecDepth 100000 in
set_option maxHeartbeats 4000000 in
theorem t_X3_leastRest_6b {G : Cx} (hG : am_G G) (N : Nat) (k6 : Int32 → Int32 → Int32 → Int32 → Sg → Option (Int32 × Sg)) (hk6 : ∀ (x1 : Int32) (x2 : Int32) (x3 : Int32) (x4 : Int32) (σ : Sg) (r : Int32 × Sg), k6 x1 x2 x3 x4 σ = some r → am_Wp G mX3_leastRest 2 (am_qi r.1 r.2) 6 [some (.ref 8), some (.int x1), some (.int x2), some (.int x3), some (.int x4)] [] σ) (x1 : Int32) (x2 : Int32) (x3 : Int32) (x4 : Int32) (σ : Sg) (r : Int32 × Sg) (h : b_X3_leastRest_6b N k6 x1 x2 x3 x4 σ = some r) : am_Wp G mX3_leastRest 2 (am_qi r.1 r.2) 6 [some (.ref 8), some (.int x1), some (.int x2), some (.int x3), some (.int x4)] [] σ := by
  intro K h0 X
  unfold b_X3_leastRest_6b at h
  refine am_iload X dX3_leastRest_6 rfl ?_
  refine am_aload_n X dX3_leastRest_8 rfl rfl ?_
  refine am_getf (v := .int (rg σ 8 0)) X dX3_leastRest_9 fl_X3_34 rfl rfl (by decide) ?_
  refine am_icmp_ge (tgt := 44) X dX3_leastRest_12 (by decide) (fun c => ?_) (fun c => ?_)
  · have h := if_t h c
    refine am_iload_n X dX3_leastRest_44 rfl rfl ?_
    obtain rfl := Option.some.inj h
    exact am_iret X h0 dX3_leastRest_45 rfl ⟨rfl, rfl⟩
  · have h := if_f h c
    refine am_iload_n X dX3_leastRest_15 rfl rfl ?_
    refine am_iload X dX3_leastRest_16 rfl ?_
    refine am_ishr X dX3_leastRest_18 ?_
    refine am_iconst (v := (1 : Int32)) X dX3_leastRest_19 (by decide) ?_
    refine am_iand X dX3_leastRest_20 ?_
    refine am_iconst (v := (1 : Int32)) X dX3_leastRest_21 (by decide) ?_
    refine am_icmp_ne (tgt := 38) X dX3_leastRest_22 (by decide) (fun c => ?_) (fun c => ?_)
    · have h := if_f h c
      exact am_jump (t_X3_leastRest_38 hG N k6 hk6 _ _ _ _ _ _ h K h0 X) rfl ⟨rfl, rfl, rfl, rfl, rfl, trivial⟩
    · have h := if_t h c
      refine am_iload_n X dX3_leastRest_25 rfl rfl ?_
      refine am_aload_n X dX3_leastRest_26 rfl rfl ?_
      refine am_iload_n X dX3_leastRest_27 rfl rfl ?_
      refine am_iload X dX3_leastRest_28 rfl ?_
      refine am_iload_n X dX3_leastRest_30 rfl rfl ?_
      obtain ⟨v31, σ31, hc, h⟩ := bd2_some h
      refine am_callv_i3 X dX3_leastRest_31 cw_X3_55 (ct_X3_restBy hG N _ _ _ _ _ hc) (Nat.le_of_ble_eq_true rfl) rfl rfl rfl rfl (Nat.le_of_ble_eq_true rfl) ?_
      refine am_min X dX3_leastRest_34 (wm_r29 _ (List.mem_of_getElem? (i := 19) rfl)) ⟨Nat.le_add_left 1 _, Nat.le_of_ble_eq_true rfl⟩ ?_
      refine am_topi h (fun x3_37 h => ?_)
      refine am_istore_n (ls' := [some (.ref 8), some (.int x1), some (.int x2), some (.int x3_37), some (.int x4)]) X dX3_leastRest_37 rfl (by decide)  rfl rfl ?_
      exact am_jump (t_X3_leastRest_38 hG N k6 hk6 _ _ _ _ _ _ h K h0 X) rfl ⟨rfl, rfl, rfl, rfl, rfl, trivial⟩
set_option maxRecDepth 100000 in
set_option maxHeartbeats 4000000 in
theorem t_X3_leastRest_6 {G : Cx} (hG : am_G G) (N : Nat) : ∀ (n : Nat) (x1 : Int32) (x2 : Int32) (x3 : Int32) (x4 : Int32) (σ : Sg) (r : Int32 × Sg), b_X3_leastRest_6 N n x1 x2 x3 x4 σ = some r → am_Wp G mX3_leastRest 2 (am_qi r.1 r.2) 6 [some (.ref 8), some (.int x1), some (.int x2), some (.int x3), some (.int x4)] [] σ := by
  intro n
  induction n with
  | zero => intro x1 x2 x3 x4 σ r h; cases h
  | succ n ih => intro x1 x2 x3 x4 σ r h; exact t_X3_leastRest_6b hG N (b_X3_leastRest_6 N n) ih x1 x2 x3 x4 σ r h
set_option maxRecDepth 100000 in
set_option maxHeartbeats 4000000 in
theorem ct_X3_leastRest {G : Cx} (hG : am_G G) (N : Nat) (x1 : Int32) (x2 : Int32) (σ : Sg) (r : Int32 × Sg) (h : f_X3_leastRest N x1 x2 σ = some r) : am_Ct G 3 yX3_leastRest mX3_leastRest [.ref 8, .int x1, .int x2] σ (am_qi r.1 r.2) := by
  refine am_enter hG rfl rfl (Nat.le_of_ble_eq_true rfl) ?_
  intro K h0 X
  unfold f_X3_leastRest at h
  refine am_jump (pc' := 0) (ls' := [some (.ref 8), some (.int x1), some (.int x2), none, none]) ?_ rfl ⟨rfl, rfl, rfl, trivial⟩
  refine am_ldc (v := (1000000 : Int32)) X dX3_leastRest_0 (wm_r29 _ (List.mem_of_getElem? (i := 18) rfl)) ?_
  refine am_istore_n (ls' := [some (.ref 8), some (.int x1), some (.int x2), some (.int (1000000 : Int32)), none]) X dX3_leastRest_2 rfl (by decide)  rfl rfl ?_
  refine am_iconst (v := (0 : Int32)) X dX3_leastRest_3 (by decide) ?_
  refine am_istore (ls' := [some (.ref 8), some (.int x1), some (.int x2), some (.int (1000000 : Int32)), some (.int (0 : Int32))]) X dX3_leastRest_4 (by decide)  rfl rfl ?_
  exact am_jump (t_X3_leastRest_6 hG N N _ _ _ _ _ _ h K h0 X) rfl ⟨rfl, rfl, rfl, rfl, rfl, trivial⟩
set_option maxRecDepth 100000 in
set_option maxHeartbeats 4000000 in
theorem t_X3_plan_73 {G : Cx} (hG : am_G G) (N : Nat) (k2 : Int32 → Int32 → Int32 → Sg → Option (Sg)) (hk2 : ∀ (x1 : Int32) (x2 : Int32) (x3 : Int32) (σ : Sg) (r : Sg), k2 x1 x2 x3 σ = some r → am_Wp G mX3_plan 3 (am_qv r) 2 [some (.ref 8), some (.int x1), some (.int x2), some (.int x3), none] [] σ) (x1 : Int32) (x2 : Int32) (x3 : Int32) (σ : Sg) (r : Sg) (h : b_X3_plan_73 N k2 x1 x2 x3 σ = some r) : am_Wp G mX3_plan 3 (am_qv r) 73 [some (.ref 8), some (.int x1), some (.int x2), some (.int x3), none] [] σ := by
  intro K h0 X
  unfold b_X3_plan_73 at h
  refine am_iinc (ls' := fun x3_73 => [some (.ref 8), some (.int x1), some (.int x2), some (.int x3_73), none]) X dX3_plan_73 rfl h (by decide) (by decide) rfl (fun _ => rfl) (fun x3_73 h => ?_)
  refine am_goto (tgt := 2) X dX3_plan_76 (by decide) ?_
  exact am_jump (hk2 _ _ _ _ _ h K h0 X) rfl ⟨rfl, rfl, rfl, rfl, trivial⟩
set_option maxRecDepth 100000 in
set_option maxHeartbeats 4000000 in
theorem t_X3_plan_66 {G : Cx} (hG : am_G G) (N : Nat) (k2 : Int32 → Int32 → Int32 → Sg → Option (Sg)) (k17 : Int32 → Int32 → Int32 → Int32 → Sg → Option (Sg)) (hk2 : ∀ (x1 : Int32) (x2 : Int32) (x3 : Int32) (σ : Sg) (r : Sg), k2 x1 x2 x3 σ = some r → am_Wp G mX3_plan 3 (am_qv r) 2 [some (.ref 8), some (.int x1), some (.int x2), some (.int x3), none] [] σ) (hk17 : ∀ (x1 : Int32) (x2 : Int32) (x3 : Int32) (x4 : Int32) (σ : Sg) (r : Sg), k17 x1 x2 x3 x4 σ = some r → am_Wp G mX3_plan 3 (am_qv r) 17 [some (.ref 8), some (.int x1), some (.int x2), some (.int x3), some (.int x4)] [] σ) (x1 : Int32) (x2 : Int32) (x3 : Int32) (x4 : Int32) (s1 : Int32) (s2 : Int32) (σ : Sg) (r : Sg) (h : b_X3_plan_66 N k2 k17 x1 x2 x3 x4 s1 s2 σ = some r) : am_Wp G mX3_plan 3 (am_qv r) 66 [some (.ref 8), some (.int x1), some (.int x2), some (.int x3), some (.int x4)] [.int s2, .int s1, .ref 56] σ := by
  intro K h0 X
  unfold b_X3_plan_66 at h
  obtain ⟨g, h⟩ := gd_some h
  refine am_iast X dX3_plan_66 rfl g ?_
  refine am_tops h (fun σ66 h => ?_)
  refine am_iinc (ls' := fun x4_67 => [some (.ref 8), some (.int x1), some (.int x2), some (.int x3), some (.int x4_67)]) X dX3_plan_67 rfl h (by decide) (by decide) rfl (fun _ => rfl) (fun x4_67 h => ?_)
  refine am_goto (tgt := 17) X dX3_plan_70 (by decide) ?_
  exact am_jump (hk17 _ _ _ _ _ _ h K h0 X) rfl ⟨rfl, rfl, rfl, rfl, rfl, trivial⟩
set_option maxRecDepth 100000 in
set_option maxHeartbeats 4000000 in
theorem t_X3_plan_17b {G : Cx} (hG : am_G G) (N : Nat) (k2 : Int32 → Int32 → Int32 → Sg → Option (Sg)) (k17 : Int32 → Int32 → Int32 → Int32 → Sg → Option (Sg)) (hk2 : ∀ (x1 : Int32) (x2 : Int32) (x3 : Int32) (σ : Sg) (r : Sg), k2 x1 x2 x3 σ = some r → am_Wp G mX3_plan 3 (am_qv r) 2 [some (.ref 8), some (.int x1), some (.int x2), some (.int x3), none] [] σ) (hk17 : ∀ (x1 : Int32) (x2 : Int32) (x3 : Int32) (x4 : Int32) (σ : Sg) (r : Sg), k17 x1 x2 x3 x4 σ = some r → am_Wp G mX3_plan 3 (am_qv r) 17 [some (.ref 8), some (.int x1), some (.int x2), some (.int x3), some (.int x4)] [] σ) (x1 : Int32) (x2 : Int32) (x3 : Int32) (x4 : Int32) (σ : Sg) (r : Sg) (h : b_X3_plan_17b N k2 k17 x1 x2 x3 x4 σ = some r) : am_Wp G mX3_plan 3 (am_qv r) 17 [some (.ref 8), some (.int x1), some (.int x2), some (.int x3), some (.int x4)] [] σ := by
  intro K h0 X
  unfold b_X3_plan_17b at h
  refine am_iload X dX3_plan_17 rfl ?_
  refine am_aload_n X dX3_plan_19 rfl rfl ?_
  refine am_getf (v := .int (rg σ 8 0)) X dX3_plan_20 fl_X3_34 rfl rfl (by decide) ?_
  refine am_icmp_ge (tgt := 73) X dX3_plan_23 (by decide) (fun c => ?_) (fun c => ?_)
  · have h := if_t h c
    exact am_jump (t_X3_plan_73 hG N k2 hk2 _ _ _ _ _ h K h0 X) rfl ⟨rfl, rfl, rfl, rfl, trivial⟩
  · have h := if_f h c
    refine am_iload_n X dX3_plan_26 rfl rfl ?_
    refine am_iload_n X dX3_plan_27 rfl rfl ?_
    refine am_iconst (v := (-1 : Int32)) X dX3_plan_28 (by decide) ?_
    refine am_ixor X dX3_plan_29 ?_
    refine am_iand X dX3_plan_30 ?_
    refine am_if_ne (tgt := 73) X dX3_plan_31 (by decide) (fun c => ?_) (fun c => ?_)
    · have h := if_f h c
      exact am_jump (t_X3_plan_73 hG N k2 hk2 _ _ _ _ _ h K h0 X) rfl ⟨rfl, rfl, rfl, rfl, trivial⟩
    · have h := if_t h c
      refine am_aload_n X dX3_plan_34 rfl rfl ?_
      refine am_getf (v := .ref 56) X dX3_plan_35 fl_X3_18 rfl rfl (by decide) ?_
      refine am_iload_n X dX3_plan_38 rfl rfl ?_
      refine am_bipush (v := (7 : Int32)) X dX3_plan_39 (by decide) ?_
      refine am_imul X dX3_plan_41 ?_
      refine am_iload X dX3_plan_42 rfl ?_
      refine am_iadd X dX3_plan_44 ?_
      refine am_iload_n X dX3_plan_45 rfl rfl ?_
      refine am_if_ne (tgt := 59) X dX3_plan_46 (by decide) (fun c => ?_) (fun c => ?_)
      · have h := if_f h c
        refine am_aload_n X dX3_plan_59 rfl rfl ?_
        refine am_iload X dX3_plan_60 rfl ?_
        refine am_iload_n X dX3_plan_62 rfl rfl ?_
        obtain ⟨v63, σ63, hc, h⟩ := bd2_some h
        refine am_callv_i2 X dX3_plan_63 cw_X3_52 (ct_X3_leastRest hG N _ _ _ _ hc) (Nat.le_of_ble_eq_true rfl) rfl rfl rfl rfl (Nat.le_of_ble_eq_true rfl) ?_
        exact am_jump (t_X3_plan_66 hG N k2 k17 hk2 hk17 _ _ _ _ _ _ _ _ h K h0 X) rfl ⟨rfl, rfl, rfl, rfl, rfl, trivial⟩
      · have h := if_t h c
        refine am_aload_n X dX3_plan_49 rfl rfl ?_
        refine am_iload X dX3_plan_50 rfl ?_
        refine am_iload_n X dX3_plan_52 rfl rfl ?_
        obtain ⟨v53, σ53, hc, h⟩ := bd2_some h
        refine am_callv_i2 X dX3_plan_53 cw_X3_43 (ct_X3_price hG N _ _ _ _ hc) (Nat.le_of_ble_eq_true rfl) rfl rfl rfl rfl (Nat.le_of_ble_eq_true rfl) ?_
        refine am_goto (tgt := 66) X dX3_plan_56 (by decide) ?_
        exact am_jump (t_X3_plan_66 hG N k2 k17 hk2 hk17 _ _ _ _ _ _ _ _ h K h0 X) rfl ⟨rfl, rfl, rfl, rfl, rfl, trivial⟩
set_option maxRecDepth 100000 in
set_option maxHeartbeats 4000000 in
theorem t_X3_plan_17 {G : Cx} (hG : am_G G) (N : Nat) (k2 : Int32 → Int32 → Int32 → Sg → Option (Sg)) (hk2 : ∀ (x1 : Int32) (x2 : Int32) (x3 : Int32) (σ : Sg) (r : Sg), k2 x1 x2 x3 σ = some r → am_Wp G mX3_plan 3 (am_qv r) 2 [some (.ref 8), some (.int x1), some (.int x2), some (.int x3), none] [] σ) : ∀ (n : Nat) (x1 : Int32) (x2 : Int32) (x3 : Int32) (x4 : Int32) (σ : Sg) (r : Sg), b_X3_plan_17 N k2 n x1 x2 x3 x4 σ = some r → am_Wp G mX3_plan 3 (am_qv r) 17 [some (.ref 8), some (.int x1), some (.int x2), some (.int x3), some (.int x4)] [] σ := by
  intro n
  induction n with
  | zero => intro x1 x2 x3 x4 σ r h; cases h
  | succ n ih => intro x1 x2 x3 x4 σ r h; exact t_X3_plan_17b hG N k2 (b_X3_plan_17 N k2 n) hk2 ih x1 x2 x3 x4 σ r h
set_option maxRecDepth 100000 in
set_option maxHeartbeats 4000000 in
theorem t_X3_plan_2b {G : Cx} (hG : am_G G) (N : Nat) (k2 : Int32 → Int32 → Int32 → Sg → Option (Sg)) (hk2 : ∀ (x1 : Int32) (x2 : Int32) (x3 : Int32) (σ : Sg) (r : Sg), k2 x1 x2 x3 σ = some r → am_Wp G mX3_plan 3 (am_qv r) 2 [some (.ref 8), some (.int x1), some (.int x2), some (.int x3), none] [] σ) (x1 : Int32) (x2 : Int32) (x3 : Int32) (σ : Sg) (r : Sg) (h : b_X3_plan_2b N k2 x1 x2 x3 σ = some r) : am_Wp G mX3_plan 3 (am_qv r) 2 [some (.ref 8), some (.int x1), some (.int x2), some (.int x3), none] [] σ := by
  intro K h0 X
  unfold b_X3_plan_2b at h
  refine am_iload_n X dX3_plan_2 rfl rfl ?_
  refine am_iload_n X dX3_plan_3 rfl rfl ?_
  refine am_icmp_gt (tgt := 79) X dX3_plan_4 (by decide) (fun c => ?_) (fun c => ?_)
  · have h := if_t h c
    obtain rfl := Option.some.inj h
    exact am_vret X h0 dX3_plan_79 rfl ⟨rfl, rfl⟩
  · have h := if_f h c
    refine am_iload_n X dX3_plan_7 rfl rfl ?_
    refine am_sipush (v := (128 : Int32)) X dX3_plan_8 (by decide) ?_
    refine am_icmp_ge (tgt := 79) X dX3_plan_11 (by decide) (fun c => ?_) (fun c => ?_)
    · have h := if_t h c
      obtain rfl := Option.some.inj h
      exact am_vret X h0 dX3_plan_79 rfl ⟨rfl, rfl⟩
    · have h := if_f h c
      refine am_iconst (v := (0 : Int32)) X dX3_plan_14 (by decide) ?_
      refine am_istore (ls' := [some (.ref 8), some (.int x1), some (.int x2), some (.int x3), some (.int (0 : Int32))]) X dX3_plan_15 (by decide)  rfl rfl ?_
      exact am_jump (t_X3_plan_17 hG N k2 hk2 N _ _ _ _ _ _ h K h0 X) rfl ⟨rfl, rfl, rfl, rfl, rfl, trivial⟩
set_option maxRecDepth 100000 in
set_option maxHeartbeats 4000000 in
theorem t_X3_plan_2 {G : Cx} (hG : am_G G) (N : Nat) : ∀ (n : Nat) (x1 : Int32) (x2 : Int32) (x3 : Int32) (σ : Sg) (r : Sg), b_X3_plan_2 N n x1 x2 x3 σ = some r → am_Wp G mX3_plan 3 (am_qv r) 2 [some (.ref 8), some (.int x1), some (.int x2), some (.int x3), none] [] σ := by
  intro n
  induction n with
  | zero => intro x1 x2 x3 σ r h; cases h
  | succ n ih => intro x1 x2 x3 σ r h; exact t_X3_plan_2b hG N (b_X3_plan_2 N n) ih x1 x2 x3 σ r h
set_option maxRecDepth 100000 in
set_option maxHeartbeats 4000000 in
theorem ct_X3_plan {G : Cx} (hG : am_G G) (N : Nat) (x1 : Int32) (x2 : Int32) (σ : Sg) (r : Sg) (h : f_X3_plan N x1 x2 σ = some r) : am_Ct G 4 yX3_plan mX3_plan [.ref 8, .int x1, .int x2] σ (am_qv r) := by
  refine am_enter hG rfl rfl (Nat.le_of_ble_eq_true rfl) ?_
  intro K h0 X
  unfold f_X3_plan at h
  refine am_jump (pc' := 0) (ls' := [some (.ref 8), some (.int x1), some (.int x2), none, none]) ?_ rfl ⟨rfl, rfl, rfl, trivial⟩
  refine am_iconst (v := (0 : Int32)) X dX3_plan_0 (by decide) ?_
  refine am_istore_n (ls' := [some (.ref 8), some (.int x1), some (.int x2), some (.int (0 : Int32)), none]) X dX3_plan_1 rfl (by decide)  rfl rfl ?_
  exact am_jump (t_X3_plan_2 hG N N _ _ _ _ _ h K h0 X) rfl ⟨rfl, rfl, rfl, rfl, trivial⟩
set_option maxRecDepth 100000 in
set_option maxHeartbeats 4000000 in
theorem ct_X3_planned {G : Cx} (hG : am_G G) (N : Nat) (x1 : Int32) (x2 : Int32) (σ : Sg) (r : Int32 × Sg) (h : f_X3_planned N x1 x2 σ = some r) : am_Ct G 1 yX3_planned mX3_planned [.ref 8, .int x1, .int x2] σ (am_qi r.1 r.2) := by
  refine am_enter hG rfl rfl (Nat.le_of_ble_eq_true rfl) ?_
  intro K h0 X
  unfold f_X3_planned at h
  refine am_jump (pc' := 0) (ls' := [some (.ref 8), some (.int x1), some (.int x2), none]) ?_ rfl ⟨rfl, rfl, rfl, trivial⟩
  refine am_aload_n X dX3_planned_0 rfl rfl ?_
  refine am_getf (v := .ref 56) X dX3_planned_1 fl_X3_18 rfl rfl (by decide) ?_
  refine am_iload_n X dX3_planned_4 rfl rfl ?_
  refine am_bipush (v := (7 : Int32)) X dX3_planned_5 (by decide) ?_
  refine am_imul X dX3_planned_7 ?_
  refine am_iload_n X dX3_planned_8 rfl rfl ?_
  refine am_iadd X dX3_planned_9 ?_
  obtain ⟨g, h⟩ := gd_some h
  refine am_iald X dX3_planned_10 rfl g ?_
  refine am_topi h (fun x3_11 h => ?_)
  refine am_istore_n (ls' := [some (.ref 8), some (.int x1), some (.int x2), some (.int x3_11)]) X dX3_planned_11 rfl (by decide)  rfl rfl ?_
  refine am_iload_n X dX3_planned_12 rfl rfl ?_
  refine am_ldc (v := (1000000 : Int32)) X dX3_planned_13 (wm_r29 _ (List.mem_of_getElem? (i := 18) rfl)) ?_
  refine am_icmp_ge (tgt := 22) X dX3_planned_15 (by decide) (fun c => ?_) (fun c => ?_)
  · have h := if_t h c
    refine am_bipush (v := (-5 : Int32)) X dX3_planned_22 (by decide) ?_
    obtain rfl := Option.some.inj h
    exact am_iret X h0 dX3_planned_24 rfl ⟨rfl, rfl⟩
  · have h := if_f h c
    refine am_iload_n X dX3_planned_18 rfl rfl ?_
    refine am_goto (tgt := 24) X dX3_planned_19 (by decide) ?_
    obtain rfl := Option.some.inj h
    exact am_iret X h0 dX3_planned_24 rfl ⟨rfl, rfl⟩
set_option maxRecDepth 100000 in
set_option maxHeartbeats 4000000 in
theorem t_X3_firstOf_54 {G : Cx} (hG : am_G G) (N : Nat) (k2 : Int32 → Int32 → Int32 → Sg → Option (Int32 × Sg)) (hk2 : ∀ (x1 : Int32) (x2 : Int32) (x3 : Int32) (σ : Sg) (r : Int32 × Sg), k2 x1 x2 x3 σ = some r → am_Wp G mX3_firstOf 2 (am_qi r.1 r.2) 2 [some (.ref 8), some (.int x1), some (.int x2), some (.int x3), none] [] σ) (x1 : Int32) (x2 : Int32) (x3 : Int32) (σ : Sg) (r : Int32 × Sg) (h : b_X3_firstOf_54 N k2 x1 x2 x3 σ = some r) : am_Wp G mX3_firstOf 2 (am_qi r.1 r.2) 54 [some (.ref 8), some (.int x1), some (.int x2), some (.int x3), none] [] σ := by
  intro K h0 X
  unfold b_X3_firstOf_54 at h
  refine am_iinc (ls' := fun x3_54 => [some (.ref 8), some (.int x1), some (.int x2), some (.int x3_54), none]) X dX3_firstOf_54 rfl h (by decide) (by decide) rfl (fun _ => rfl) (fun x3_54 h => ?_)
  refine am_goto (tgt := 2) X dX3_firstOf_57 (by decide) ?_
  exact am_jump (hk2 _ _ _ _ _ h K h0 X) rfl ⟨rfl, rfl, rfl, rfl, trivial⟩
set_option maxRecDepth 100000 in
set_option maxHeartbeats 4000000 in
theorem t_X3_firstOf_24 {G : Cx} (hG : am_G G) (N : Nat) (k2 : Int32 → Int32 → Int32 → Sg → Option (Int32 × Sg)) (hk2 : ∀ (x1 : Int32) (x2 : Int32) (x3 : Int32) (σ : Sg) (r : Int32 × Sg), k2 x1 x2 x3 σ = some r → am_Wp G mX3_firstOf 2 (am_qi r.1 r.2) 2 [some (.ref 8), some (.int x1), some (.int x2), some (.int x3), none] [] σ) (x1 : Int32) (x2 : Int32) (x3 : Int32) (s0 : Int32) (σ : Sg) (r : Int32 × Sg) (h : b_X3_firstOf_24 N k2 x1 x2 x3 s0 σ = some r) : am_Wp G mX3_firstOf 2 (am_qi r.1 r.2) 24 [some (.ref 8), some (.int x1), some (.int x2), some (.int x3), none] [.int s0] σ := by
  intro K h0 X
  unfold b_X3_firstOf_24 at h
  refine am_istore (ls' := [some (.ref 8), some (.int x1), some (.int x2), some (.int x3), some (.int s0)]) X dX3_firstOf_24 (by decide)  rfl rfl ?_
  refine am_iload X dX3_firstOf_26 rfl ?_
  refine am_if_eq (tgt := 54) X dX3_firstOf_28 (by decide) (fun c => ?_) (fun c => ?_)
  · have h := if_t h c
    exact am_jump (t_X3_firstOf_54 hG N k2 hk2 _ _ _ _ _ h K h0 X) rfl ⟨rfl, rfl, rfl, rfl, trivial⟩
  · have h := if_f h c
    refine am_aload_n X dX3_firstOf_31 rfl rfl ?_
    refine am_iload_n X dX3_firstOf_32 rfl rfl ?_
    refine am_iload_n X dX3_firstOf_33 rfl rfl ?_
    refine am_iload_n X dX3_firstOf_34 rfl rfl ?_
    obtain ⟨v35, σ35, hc, h⟩ := bd2_some h
    refine am_callv_i3 X dX3_firstOf_35 cw_X3_55 (ct_X3_restBy hG N _ _ _ _ _ hc) (Nat.le_of_ble_eq_true rfl) rfl rfl rfl rfl (Nat.le_of_ble_eq_true rfl) ?_
    refine am_aload_n X dX3_firstOf_38 rfl rfl ?_
    refine am_getf (v := .ref 56) X dX3_firstOf_39 fl_X3_18 rfl rfl (by decide) ?_
    refine am_iload_n X dX3_firstOf_42 rfl rfl ?_
    refine am_bipush (v := (7 : Int32)) X dX3_firstOf_43 (by decide) ?_
    refine am_imul X dX3_firstOf_45 ?_
    refine am_iload_n X dX3_firstOf_46 rfl rfl ?_
    refine am_iadd X dX3_firstOf_47 ?_
    obtain ⟨g, h⟩ := gd_some h
    refine am_iald X dX3_firstOf_48 rfl g ?_
    refine am_icmp_ne (tgt := 54) X dX3_firstOf_49 (by decide) (fun c => ?_) (fun c => ?_)
    · have h := if_f h c
      exact am_jump (t_X3_firstOf_54 hG N k2 hk2 _ _ _ _ _ h K h0 X) rfl ⟨rfl, rfl, rfl, rfl, trivial⟩
    · have h := if_t h c
      refine am_iload_n X dX3_firstOf_52 rfl rfl ?_
      obtain rfl := Option.some.inj h
      exact am_iret X h0 dX3_firstOf_53 rfl ⟨rfl, rfl⟩
set_option maxRecDepth 100000 in
set_option maxHeartbeats 4000000 in
theorem t_X3_firstOf_2b {G : Cx} (hG : am_G G) (N : Nat) (k2 : Int32 → Int32 → Int32 → Sg → Option (Int32 × Sg)) (hk2 : ∀ (x1 : Int32) (x2 : Int32) (x3 : Int32) (σ : Sg) (r : Int32 × Sg), k2 x1 x2 x3 σ = some r → am_Wp G mX3_firstOf 2 (am_qi r.1 r.2) 2 [some (.ref 8), some (.int x1), some (.int x2), some (.int x3), none] [] σ) (x1 : Int32) (x2 : Int32) (x3 : Int32) (σ : Sg) (r : Int32 × Sg) (h : b_X3_firstOf_2b N k2 x1 x2 x3 σ = some r) : am_Wp G mX3_firstOf 2 (am_qi r.1 r.2) 2 [some (.ref 8), some (.int x1), some (.int x2), some (.int x3), none] [] σ := by
  intro K h0 X
  unfold b_X3_firstOf_2b at h
  refine am_iload_n X dX3_firstOf_2 rfl rfl ?_
  refine am_aload_n X dX3_firstOf_3 rfl rfl ?_
  refine am_getf (v := .int (rg σ 8 0)) X dX3_firstOf_4 fl_X3_34 rfl rfl (by decide) ?_
  refine am_icmp_ge (tgt := 60) X dX3_firstOf_7 (by decide) (fun c => ?_) (fun c => ?_)
  · have h := if_t h c
    refine am_iconst (v := (-1 : Int32)) X dX3_firstOf_60 (by decide) ?_
    obtain rfl := Option.some.inj h
    exact am_iret X h0 dX3_firstOf_61 rfl ⟨rfl, rfl⟩
  · have h := if_f h c
    refine am_iload_n X dX3_firstOf_10 rfl rfl ?_
    refine am_iload_n X dX3_firstOf_11 rfl rfl ?_
    refine am_ishr X dX3_firstOf_12 ?_
    refine am_iconst (v := (1 : Int32)) X dX3_firstOf_13 (by decide) ?_
    refine am_iand X dX3_firstOf_14 ?_
    refine am_iconst (v := (1 : Int32)) X dX3_firstOf_15 (by decide) ?_
    refine am_icmp_ne (tgt := 23) X dX3_firstOf_16 (by decide) (fun c => ?_) (fun c => ?_)
    · have h := if_f h c
      refine am_iconst (v := (0 : Int32)) X dX3_firstOf_23 (by decide) ?_
      exact am_jump (t_X3_firstOf_24 hG N k2 hk2 _ _ _ _ _ _ h K h0 X) rfl ⟨rfl, rfl, rfl, rfl, trivial⟩
    · have h := if_t h c
      refine am_iconst (v := (1 : Int32)) X dX3_firstOf_19 (by decide) ?_
      refine am_goto (tgt := 24) X dX3_firstOf_20 (by decide) ?_
      exact am_jump (t_X3_firstOf_24 hG N k2 hk2 _ _ _ _ _ _ h K h0 X) rfl ⟨rfl, rfl, rfl, rfl, trivial⟩
set_option maxRecDepth 100000 in
set_option maxHeartbeats 4000000 in
theorem t_X3_firstOf_2 {G : Cx} (hG : am_G G) (N : Nat) : ∀ (n : Nat) (x1 : Int32) (x2 : Int32) (x3 : Int32) (σ : Sg) (r : Int32 × Sg), b_X3_firstOf_2 N n x1 x2 x3 σ = some r → am_Wp G mX3_firstOf 2 (am_qi r.1 r.2) 2 [some (.ref 8), some (.int x1), some (.int x2), some (.int x3), none] [] σ := by
  intro n
  induction n with
  | zero => intro x1 x2 x3 σ r h; cases h
  | succ n ih => intro x1 x2 x3 σ r h; exact t_X3_firstOf_2b hG N (b_X3_firstOf_2 N n) ih x1 x2 x3 σ r h
set_option maxRecDepth 100000 in
set_option maxHeartbeats 4000000 in
theorem ct_X3_firstOf {G : Cx} (hG : am_G G) (N : Nat) (x1 : Int32) (x2 : Int32) (σ : Sg) (r : Int32 × Sg) (h : f_X3_firstOf N x1 x2 σ = some r) : am_Ct G 3 yX3_firstOf mX3_firstOf [.ref 8, .int x1, .int x2] σ (am_qi r.1 r.2) := by
  refine am_enter hG rfl rfl (Nat.le_of_ble_eq_true rfl) ?_
  intro K h0 X
  unfold f_X3_firstOf at h
  refine am_jump (pc' := 0) (ls' := [some (.ref 8), some (.int x1), some (.int x2), none, none]) ?_ rfl ⟨rfl, rfl, rfl, trivial⟩
  refine am_iconst (v := (0 : Int32)) X dX3_firstOf_0 (by decide) ?_
  refine am_istore_n (ls' := [some (.ref 8), some (.int x1), some (.int x2), some (.int (0 : Int32)), none]) X dX3_firstOf_1 rfl (by decide)  rfl rfl ?_
  exact am_jump (t_X3_firstOf_2 hG N N _ _ _ _ _ h K h0 X) rfl ⟨rfl, rfl, rfl, rfl, trivial⟩
set_option maxRecDepth 100000 in
set_option maxHeartbeats 4000000 in
theorem t_X3_inOrder_21b {G : Cx} (hG : am_G G) (N : Nat) (k21 : Int32 → Int32 → Int32 → Int32 → Sg → Option (Int32 × Sg)) (hk21 : ∀ (x3 : Int32) (x4 : Int32) (x5 : Int32) (x6 : Int32) (σ : Sg) (r : Int32 × Sg), k21 x3 x4 x5 x6 σ = some r → am_Wp G mX3_inOrder 3 (am_qi r.1 r.2) 21 [some (.ref 8), none, none, some (.int x3), some (.int x4), some (.int x5), some (.int x6)] [] σ) (x3 : Int32) (x4 : Int32) (x5 : Int32) (x6 : Int32) (σ : Sg) (r : Int32 × Sg) (h : b_X3_inOrder_21b N k21 x3 x4 x5 x6 σ = some r) : am_Wp G mX3_inOrder 3 (am_qi r.1 r.2) 21 [some (.ref 8), none, none, some (.int x3), some (.int x4), some (.int x5), some (.int x6)] [] σ := by
  intro K h0 X
  unfold b_X3_inOrder_21b at h
  refine am_iload X dX3_inOrder_21 rfl ?_
  refine am_iload_n X dX3_inOrder_23 rfl rfl ?_
  refine am_icmp_gt (tgt := 60) X dX3_inOrder_24 (by decide) (fun c => ?_) (fun c => ?_)
  · have h := if_t h c
    refine am_iload X dX3_inOrder_60 rfl ?_
    obtain rfl := Option.some.inj h
    exact am_iret X h0 dX3_inOrder_62 rfl ⟨rfl, rfl⟩
  · have h := if_f h c
    refine am_aload_n X dX3_inOrder_27 rfl rfl ?_
    refine am_iload X dX3_inOrder_28 rfl ?_
    refine am_iload X dX3_inOrder_30 rfl ?_
    obtain ⟨v32, σ32, hc, h⟩ := bd2_some h
    refine am_callv_i2 X dX3_inOrder_32 cw_X3_62 (ct_X3_firstOf hG N _ _ _ _ hc) (Nat.le_of_ble_eq_true rfl) rfl rfl rfl rfl (Nat.le_of_ble_eq_true rfl) ?_
    refine am_istore (ls' := [some (.ref 8), none, none, some (.int x3), some (.int v32), some (.int x5), some (.int x6)]) X dX3_inOrder_35 (by decide)  rfl rfl ?_
    refine am_iload X dX3_inOrder_37 rfl ?_
    refine am_if_ge (tgt := 45) X dX3_inOrder_39 (by decide) (fun c => ?_) (fun c => ?_)
    · have h := if_t h c
      refine am_iload X dX3_inOrder_45 rfl ?_
      refine am_iconst (v := (1 : Int32)) X dX3_inOrder_47 (by decide) ?_
      refine am_iload X dX3_inOrder_48 rfl ?_
      refine am_ishl X dX3_inOrder_50 ?_
      refine am_ixor X dX3_inOrder_51 ?_
      refine am_topi h (fun x5_52 h => ?_)
      refine am_istore (ls' := [some (.ref 8), none, none, some (.int x3), some (.int v32), some (.int x5_52), some (.int x6)]) X dX3_inOrder_52 (by decide)  rfl rfl ?_
      refine am_iinc (ls' := fun x6_54 => [some (.ref 8), none, none, some (.int x3), some (.int v32), some (.int x5_52), some (.int x6_54)]) X dX3_inOrder_54 rfl h (by decide) (by decide) rfl (fun _ => rfl) (fun x6_54 h => ?_)
      refine am_goto (tgt := 21) X dX3_inOrder_57 (by decide) ?_
      exact am_jump (hk21 _ _ _ _ _ _ h K h0 X) rfl ⟨rfl, rfl, rfl, rfl, rfl, trivial⟩
    · have h := if_f h c
      refine am_bipush (v := (-5 : Int32)) X dX3_inOrder_42 (by decide) ?_
      obtain rfl := Option.some.inj h
      exact am_iret X h0 dX3_inOrder_44 rfl ⟨rfl, rfl⟩
set_option maxRecDepth 100000 in
set_option maxHeartbeats 4000000 in
theorem t_X3_inOrder_21 {G : Cx} (hG : am_G G) (N : Nat) : ∀ (n : Nat) (x3 : Int32) (x4 : Int32) (x5 : Int32) (x6 : Int32) (σ : Sg) (r : Int32 × Sg), b_X3_inOrder_21 N n x3 x4 x5 x6 σ = some r → am_Wp G mX3_inOrder 3 (am_qi r.1 r.2) 21 [some (.ref 8), none, none, some (.int x3), some (.int x4), some (.int x5), some (.int x6)] [] σ := by
  intro n
  induction n with
  | zero => intro x3 x4 x5 x6 σ r h; cases h
  | succ n ih => intro x3 x4 x5 x6 σ r h; exact t_X3_inOrder_21b hG N (b_X3_inOrder_21 N n) ih x3 x4 x5 x6 σ r h
set_option maxRecDepth 100000 in
set_option maxHeartbeats 4000000 in
theorem ct_X3_inOrder {G : Cx} (hG : am_G G) (N : Nat) (x1 : Int32) (x2 : Int32) (x3 : Int32) (σ : Sg) (r : Int32 × Sg) (h : f_X3_inOrder N x1 x2 x3 σ = some r) : am_Ct G 4 yX3_inOrder mX3_inOrder [.ref 8, .int x1, .int x2, .int x3] σ (am_qi r.1 r.2) := by
  refine am_enter hG rfl rfl (Nat.le_of_ble_eq_true rfl) ?_
  intro K h0 X
  unfold f_X3_inOrder at h
  refine am_jump (pc' := 0) (ls' := [some (.ref 8), some (.int x1), some (.int x2), some (.int x3), none, none, none]) ?_ rfl ⟨rfl, rfl, rfl, rfl, trivial⟩
  refine am_aload_n X dX3_inOrder_0 rfl rfl ?_
  refine am_iload_n X dX3_inOrder_1 rfl rfl ?_
  refine am_iload_n X dX3_inOrder_2 rfl rfl ?_
  obtain ⟨v3, σ3, hc, h⟩ := bd2_some h
  refine am_callv_i2 X dX3_inOrder_3 cw_X3_59 (ct_X3_planned hG N _ _ _ _ hc) (Nat.le_of_ble_eq_true rfl) rfl rfl rfl rfl (Nat.le_of_ble_eq_true rfl) ?_
  refine am_if_ge (tgt := 12) X dX3_inOrder_6 (by decide) (fun c => ?_) (fun c => ?_)
  · have h := if_t h c
    refine am_iload_n X dX3_inOrder_12 rfl rfl ?_
    refine am_istore (ls' := [some (.ref 8), some (.int x1), some (.int x2), some (.int x3), some (.int x1), none, none]) X dX3_inOrder_13 (by decide)  rfl rfl ?_
    refine am_iload_n X dX3_inOrder_15 rfl rfl ?_
    refine am_istore (ls' := [some (.ref 8), some (.int x1), some (.int x2), some (.int x3), some (.int x1), some (.int x2), none]) X dX3_inOrder_16 (by decide)  rfl rfl ?_
    refine am_iconst (v := (0 : Int32)) X dX3_inOrder_18 (by decide) ?_
    refine am_istore (ls' := [some (.ref 8), some (.int x1), some (.int x2), some (.int x3), some (.int x1), some (.int x2), some (.int (0 : Int32))]) X dX3_inOrder_19 (by decide)  rfl rfl ?_
    exact am_jump (t_X3_inOrder_21 hG N N _ _ _ _ _ _ h K h0 X) rfl ⟨rfl, rfl, rfl, rfl, rfl, trivial⟩
  · have h := if_f h c
    refine am_bipush (v := (-5 : Int32)) X dX3_inOrder_9 (by decide) ?_
    obtain rfl := Option.some.inj h
    exact am_iret X h0 dX3_inOrder_11 rfl ⟨rfl, rfl⟩
set_option maxRecDepth 100000 in
set_option maxHeartbeats 4000000 in
theorem ct_X6_errands {G : Cx} (hG : am_G G) (N : Nat) (x1 : Int32) (x2 : Int32) (x3 : Int32) (σ : Sg) (r : Int32 × Sg) (h : f_X6_errands N x1 x2 x3 σ = some r) : am_Ct G 6 yX6_errands mX6_errands [.ref 0, .int x1, .int x2, .int x3] σ (am_qi r.1 r.2) := by
  refine am_enter hG rfl rfl (Nat.le_of_ble_eq_true rfl) ?_
  intro K h0 X
  unfold f_X6_errands at h
  refine am_jump (pc' := 0) (ls' := [some (.ref 0), some (.int x1), some (.int x2), some (.int x3)]) ?_ rfl ⟨rfl, rfl, rfl, rfl, trivial⟩
  refine am_aload_n X dX6_errands_0 rfl rfl ?_
  refine am_getf (v := .ref 1) X dX6_errands_1 fl_X6_12 rfl rfl (by decide) ?_
  refine am_iload_n X dX6_errands_4 rfl rfl ?_
  obtain ⟨v5, σ5, hc, h⟩ := bd2_some h
  refine am_callv_i1 X dX6_errands_5 cw_X6_97 (ct_X4_has hG N _ _ _ hc) (Nat.le_of_ble_eq_true rfl) rfl rfl rfl rfl (Nat.le_of_ble_eq_true rfl) ?_
  refine am_if_eq (tgt := 22) X dX6_errands_8 (by decide) (fun c => ?_) (fun c => ?_)
  · have h := if_t h c
    refine am_iconst (v := (-1 : Int32)) X dX6_errands_22 (by decide) ?_
    obtain rfl := Option.some.inj h
    exact am_iret X h0 dX6_errands_23 rfl ⟨rfl, rfl⟩
  · have h := if_f h c
    refine am_iload_n X dX6_errands_11 rfl rfl ?_
    refine am_iconst (v := (-1 : Int32)) X dX6_errands_12 (by decide) ?_
    refine am_icmp_lt (tgt := 22) X dX6_errands_13 (by decide) (fun c => ?_) (fun c => ?_)
    · have h := if_t h c
      refine am_iconst (v := (-1 : Int32)) X dX6_errands_22 (by decide) ?_
      obtain rfl := Option.some.inj h
      exact am_iret X h0 dX6_errands_23 rfl ⟨rfl, rfl⟩
    · have h := if_f h c
      refine am_iload_n X dX6_errands_16 rfl rfl ?_
      refine am_bipush (v := (7 : Int32)) X dX6_errands_17 (by decide) ?_
      refine am_icmp_lt (tgt := 24) X dX6_errands_19 (by decide) (fun c => ?_) (fun c => ?_)
      · have h := if_t h c
        refine am_iload_n X dX6_errands_24 rfl rfl ?_
        refine am_if_lt (tgt := 41) X dX6_errands_25 (by decide) (fun c => ?_) (fun c => ?_)
        · have h := if_t h c
          refine am_bipush (v := (-2 : Int32)) X dX6_errands_41 (by decide) ?_
          obtain rfl := Option.some.inj h
          exact am_iret X h0 dX6_errands_43 rfl ⟨rfl, rfl⟩
        · have h := if_f h c
          refine am_iload_n X dX6_errands_28 rfl rfl ?_
          refine am_iconst (v := (1 : Int32)) X dX6_errands_29 (by decide) ?_
          refine am_aload_n X dX6_errands_30 rfl rfl ?_
          refine am_getf (v := .ref 1) X dX6_errands_31 fl_X6_12 rfl rfl (by decide) ?_
          refine am_getf (v := .int (rg σ5 1 0)) X dX6_errands_34 fl_X6_84 rfl rfl (by decide) ?_
          refine am_ishl X dX6_errands_37 ?_
          refine am_icmp_lt (tgt := 44) X dX6_errands_38 (by decide) (fun c => ?_) (fun c => ?_)
          · have h := if_t h c
            refine am_aload_n X dX6_errands_44 rfl rfl ?_
            refine am_getf (v := .ref 8) X dX6_errands_45 fl_X6_42 rfl rfl (by decide) ?_
            refine am_aload_n X dX6_errands_48 rfl rfl ?_
            refine am_getf (v := .ref 1) X dX6_errands_49 fl_X6_12 rfl rfl (by decide) ?_
            obtain ⟨σ52, hc, h⟩ := bd_some h
            refine am_callv_v1 X dX6_errands_52 cw_X6_165 (ct_X3_load hG N _ _ hc) (Nat.le_of_ble_eq_true rfl) rfl rfl rfl rfl (Nat.le_of_ble_eq_true rfl) ?_
            refine am_aload_n X dX6_errands_55 rfl rfl ?_
            refine am_getf (v := .ref 8) X dX6_errands_56 fl_X6_42 rfl rfl (by decide) ?_
            refine am_iload_n X dX6_errands_59 rfl rfl ?_
            refine am_iload_n X dX6_errands_60 rfl rfl ?_
            obtain ⟨σ61, hc, h⟩ := bd_some h
            refine am_callv_v2 X dX6_errands_61 cw_X6_169 (ct_X3_plan hG N _ _ _ _ hc) (Nat.le_of_ble_eq_true rfl) rfl rfl rfl rfl (Nat.le_of_ble_eq_true rfl) ?_
            refine am_iload_n X dX6_errands_64 rfl rfl ?_
            refine am_if_ge (tgt := 80) X dX6_errands_65 (by decide) (fun c => ?_) (fun c => ?_)
            · have h := if_t h c
              refine am_aload_n X dX6_errands_80 rfl rfl ?_
              refine am_getf (v := .ref 8) X dX6_errands_81 fl_X6_42 rfl rfl (by decide) ?_
              refine am_iload_n X dX6_errands_84 rfl rfl ?_
              refine am_iload_n X dX6_errands_85 rfl rfl ?_
              refine am_iload_n X dX6_errands_86 rfl rfl ?_
              obtain ⟨v87, σ87, hc, h⟩ := bd2_some h
              refine am_callv_i3 X dX6_errands_87 cw_X6_176 (ct_X3_inOrder hG N _ _ _ _ _ hc) (Nat.le_of_ble_eq_true rfl) rfl rfl rfl rfl (Nat.le_of_ble_eq_true rfl) ?_
              obtain rfl := Option.some.inj h
              exact am_iret X h0 dX6_errands_90 rfl ⟨rfl, rfl⟩
            · have h := if_f h c
              refine am_aload_n X dX6_errands_68 rfl rfl ?_
              refine am_getf (v := .ref 8) X dX6_errands_69 fl_X6_42 rfl rfl (by decide) ?_
              refine am_iload_n X dX6_errands_72 rfl rfl ?_
              refine am_iload_n X dX6_errands_73 rfl rfl ?_
              obtain ⟨v74, σ74, hc, h⟩ := bd2_some h
              refine am_callv_i2 X dX6_errands_74 cw_X6_173 (ct_X3_planned hG N _ _ _ _ hc) (Nat.le_of_ble_eq_true rfl) rfl rfl rfl rfl (Nat.le_of_ble_eq_true rfl) ?_
              refine am_goto (tgt := 90) X dX6_errands_77 (by decide) ?_
              obtain rfl := Option.some.inj h
              exact am_iret X h0 dX6_errands_90 rfl ⟨rfl, rfl⟩
          · have h := if_f h c
            refine am_bipush (v := (-2 : Int32)) X dX6_errands_41 (by decide) ?_
            obtain rfl := Option.some.inj h
            exact am_iret X h0 dX6_errands_43 rfl ⟨rfl, rfl⟩
      · have h := if_f h c
        refine am_iconst (v := (-1 : Int32)) X dX6_errands_22 (by decide) ?_
        obtain rfl := Option.some.inj h
        exact am_iret X h0 dX6_errands_23 rfl ⟨rfl, rfl⟩
set_option maxRecDepth 100000 in
set_option maxHeartbeats 4000000 in
theorem ct_X6_feed {G : Cx} (hG : am_G G) (N : Nat) (x1 : Int32) (σ : Sg) (r : Int32 × Sg) (h : f_X6_feed N x1 σ = some r) : am_Ct G 1 yX6_feed mX6_feed [.ref 0, .int x1] σ (am_qi r.1 r.2) := by
  refine am_enter hG rfl rfl (Nat.le_of_ble_eq_true rfl) ?_
  intro K h0 X
  unfold f_X6_feed at h
  refine am_jump (pc' := 0) (ls' := [some (.ref 0), some (.int x1)]) ?_ rfl ⟨rfl, rfl, trivial⟩
  refine am_iload_n X dX6_feed_0 rfl rfl ?_
  refine am_if_lt (tgt := 10) X dX6_feed_1 (by decide) (fun c => ?_) (fun c => ?_)
  · have h := if_t h c
    refine am_bipush (v := (-2 : Int32)) X dX6_feed_10 (by decide) ?_
    obtain rfl := Option.some.inj h
    exact am_iret X h0 dX6_feed_12 rfl ⟨rfl, rfl⟩
  · have h := if_f h c
    refine am_iload_n X dX6_feed_4 rfl rfl ?_
    refine am_bipush (v := (127 : Int32)) X dX6_feed_5 (by decide) ?_
    refine am_icmp_le (tgt := 13) X dX6_feed_7 (by decide) (fun c => ?_) (fun c => ?_)
    · have h := if_t h c
      refine am_aload_n X dX6_feed_13 rfl rfl ?_
      refine am_getf (v := .ref 1) X dX6_feed_14 fl_X6_12 rfl rfl (by decide) ?_
      refine am_getf (v := .int (rg σ 1 7)) X dX6_feed_17 fl_X6_53 rfl rfl (by decide) ?_
      refine am_bipush (v := (100 : Int32)) X dX6_feed_20 (by decide) ?_
      refine am_icmp_lt (tgt := 28) X dX6_feed_22 (by decide) (fun c => ?_) (fun c => ?_)
      · have h := if_t h c
        refine am_aload_n X dX6_feed_28 rfl rfl ?_
        refine am_getf (v := .ref 1) X dX6_feed_29 fl_X6_12 rfl rfl (by decide) ?_
        refine am_getf (v := .ref 15) X dX6_feed_32 fl_X6_57 rfl rfl (by decide) ?_
        refine am_aload_n X dX6_feed_35 rfl rfl ?_
        refine am_getf (v := .ref 1) X dX6_feed_36 fl_X6_12 rfl rfl (by decide) ?_
        refine am_getf (v := .int (rg σ 1 7)) X dX6_feed_39 fl_X6_53 rfl rfl (by decide) ?_
        refine am_iload_n X dX6_feed_42 rfl rfl ?_
        obtain ⟨g, h⟩ := gd_some h
        refine am_iast X dX6_feed_43 rfl g ?_
        refine am_tops h (fun σ43 h => ?_)
        refine am_aload_n X dX6_feed_44 rfl rfl ?_
        refine am_getf (v := .ref 1) X dX6_feed_45 fl_X6_12 rfl rfl (by decide) ?_
        refine am_dup X dX6_feed_48 rfl ?_
        refine am_getf (v := .int (rg σ43 1 7)) X dX6_feed_49 fl_X6_53 rfl rfl (by decide) ?_
        refine am_iconst (v := (1 : Int32)) X dX6_feed_52 (by decide) ?_
        refine am_iadd X dX6_feed_53 ?_
        refine am_putfi X dX6_feed_54 fp_X6_53 rfl rfl ?_
        refine am_tops h (fun σ54 h => ?_)
        refine am_aload_n X dX6_feed_57 rfl rfl ?_
        refine am_getf (v := .ref 1) X dX6_feed_58 fl_X6_12 rfl rfl (by decide) ?_
        refine am_getf (v := .int (rg σ54 1 7)) X dX6_feed_61 fl_X6_53 rfl rfl (by decide) ?_
        obtain rfl := Option.some.inj h
        exact am_iret X h0 dX6_feed_64 rfl ⟨rfl, rfl⟩
      · have h := if_f h c
        refine am_bipush (v := (-4 : Int32)) X dX6_feed_25 (by decide) ?_
        obtain rfl := Option.some.inj h
        exact am_iret X h0 dX6_feed_27 rfl ⟨rfl, rfl⟩
    · have h := if_f h c
      refine am_bipush (v := (-2 : Int32)) X dX6_feed_10 (by decide) ?_
      obtain rfl := Option.some.inj h
      exact am_iret X h0 dX6_feed_12 rfl ⟨rfl, rfl⟩
set_option maxRecDepth 100000 in
set_option maxHeartbeats 4000000 in
theorem t_X4_hasBoth_20 {G : Cx} (hG : am_G G) (N : Nat) (σ : Sg) (r : Int32 × Sg) (h : b_X4_hasBoth_20 N σ = some r) : am_Wp G mX4_hasBoth 1 (am_qi r.1 r.2) 20 [none, none, none] [] σ := by
  intro K h0 X
  unfold b_X4_hasBoth_20 at h
  refine am_iconst (v := (0 : Int32)) X dX4_hasBoth_20 (by decide) ?_
  obtain rfl := Option.some.inj h
  exact am_zret X h0 dX4_hasBoth_21 rfl (by decide) ⟨rfl, rfl⟩
set_option maxRecDepth 100000 in
set_option maxHeartbeats 4000000 in
theorem ct_X4_hasBoth {G : Cx} (hG : am_G G) (N : Nat) (x1 : Int32) (x2 : Int32) (σ : Sg) (r : Int32 × Sg) (h : f_X4_hasBoth N x1 x2 σ = some r) : am_Ct G 2 yX4_hasBoth mX4_hasBoth [.ref 1, .int x1, .int x2] σ (am_qi r.1 r.2) := by
  refine am_enter hG rfl rfl (Nat.le_of_ble_eq_true rfl) ?_
  intro K h0 X
  unfold f_X4_hasBoth at h
  refine am_jump (pc' := 0) (ls' := [some (.ref 1), some (.int x1), some (.int x2)]) ?_ rfl ⟨rfl, rfl, rfl, trivial⟩
  refine am_aload_n X dX4_hasBoth_0 rfl rfl ?_
  refine am_iload_n X dX4_hasBoth_1 rfl rfl ?_
  obtain ⟨v2, σ2, hc, h⟩ := bd2_some h
  refine am_callv_i1 X dX4_hasBoth_2 cw_X4_69 (ct_X4_has hG N _ _ _ hc) (Nat.le_of_ble_eq_true rfl) rfl rfl rfl rfl (Nat.le_of_ble_eq_true rfl) ?_
  refine am_if_eq (tgt := 20) X dX4_hasBoth_5 (by decide) (fun c => ?_) (fun c => ?_)
  · have h := if_t h c
    exact am_jump (t_X4_hasBoth_20 hG N _ _ h K h0 X) rfl trivial
  · have h := if_f h c
    refine am_aload_n X dX4_hasBoth_8 rfl rfl ?_
    refine am_iload_n X dX4_hasBoth_9 rfl rfl ?_
    obtain ⟨v10, σ10, hc, h⟩ := bd2_some h
    refine am_callv_i1 X dX4_hasBoth_10 cw_X4_69 (ct_X4_has hG N _ _ _ hc) (Nat.le_of_ble_eq_true rfl) rfl rfl rfl rfl (Nat.le_of_ble_eq_true rfl) ?_
    refine am_if_eq (tgt := 20) X dX4_hasBoth_13 (by decide) (fun c => ?_) (fun c => ?_)
    · have h := if_t h c
      exact am_jump (t_X4_hasBoth_20 hG N _ _ h K h0 X) rfl trivial
    · have h := if_f h c
      refine am_iconst (v := (1 : Int32)) X dX4_hasBoth_16 (by decide) ?_
      refine am_goto (tgt := 21) X dX4_hasBoth_17 (by decide) ?_
      obtain rfl := Option.some.inj h
      exact am_zret X h0 dX4_hasBoth_21 rfl (by decide) ⟨rfl, rfl⟩
set_option maxRecDepth 100000 in
set_option maxHeartbeats 4000000 in
theorem ct_X6_refusalOfTwo {G : Cx} (hG : am_G G) (N : Nat) (x1 : Int32) (x2 : Int32) (σ : Sg) (r : Int32 × Sg) (h : f_X6_refusalOfTwo N x1 x2 σ = some r) : am_Ct G 3 yX6_refusalOfTwo mX6_refusalOfTwo [.ref 0, .int x1, .int x2] σ (am_qi r.1 r.2) := by
  refine am_enter hG rfl rfl (Nat.le_of_ble_eq_true rfl) ?_
  intro K h0 X
  unfold f_X6_refusalOfTwo at h
  refine am_jump (pc' := 0) (ls' := [some (.ref 0), some (.int x1), some (.int x2)]) ?_ rfl ⟨rfl, rfl, rfl, trivial⟩
  refine am_aload_n X dX6_refusalOfTwo_0 rfl rfl ?_
  refine am_getf (v := .ref 1) X dX6_refusalOfTwo_1 fl_X6_12 rfl rfl (by decide) ?_
  refine am_iload_n X dX6_refusalOfTwo_4 rfl rfl ?_
  refine am_iload_n X dX6_refusalOfTwo_5 rfl rfl ?_
  obtain ⟨v6, σ6, hc, h⟩ := bd2_some h
  refine am_callv_i2 X dX6_refusalOfTwo_6 cw_X6_143 (ct_X4_hasBoth hG N _ _ _ _ hc) (Nat.le_of_ble_eq_true rfl) rfl rfl rfl rfl (Nat.le_of_ble_eq_true rfl) ?_
  refine am_if_ne (tgt := 14) X dX6_refusalOfTwo_9 (by decide) (fun c => ?_) (fun c => ?_)
  · have h := if_f h c
    refine am_iload_n X dX6_refusalOfTwo_14 rfl rfl ?_
    refine am_iload_n X dX6_refusalOfTwo_15 rfl rfl ?_
    refine am_icmp_ne (tgt := 24) X dX6_refusalOfTwo_16 (by decide) (fun c => ?_) (fun c => ?_)
    · have h := if_f h c
      refine am_iconst (v := (0 : Int32)) X dX6_refusalOfTwo_24 (by decide) ?_
      obtain rfl := Option.some.inj h
      exact am_iret X h0 dX6_refusalOfTwo_25 rfl ⟨rfl, rfl⟩
    · have h := if_t h c
      refine am_bipush (v := (-2 : Int32)) X dX6_refusalOfTwo_19 (by decide) ?_
      refine am_goto (tgt := 25) X dX6_refusalOfTwo_21 (by decide) ?_
      obtain rfl := Option.some.inj h
      exact am_iret X h0 dX6_refusalOfTwo_25 rfl ⟨rfl, rfl⟩
  · have h := if_t h c
    refine am_iconst (v := (-1 : Int32)) X dX6_refusalOfTwo_12 (by decide) ?_
    obtain rfl := Option.some.inj h
    exact am_iret X h0 dX6_refusalOfTwo_13 rfl ⟨rfl, rfl⟩
set_option maxRecDepth 100000 in
set_option maxHeartbeats 4000000 in
theorem ct_X6_fresh {G : Cx} (hG : am_G G) (N : Nat) (x1 : Int32) (x2 : Int32) (σ : Sg) (r : Int32 × Sg) (h : f_X6_fresh N x1 x2 σ = some r) : am_Ct G 6 yX6_fresh mX6_fresh [.ref 0, .int x1, .int x2] σ (am_qi r.1 r.2) := by
  refine am_enter hG rfl rfl (Nat.le_of_ble_eq_true rfl) ?_
  intro K h0 X
  unfold f_X6_fresh at h
  refine am_jump (pc' := 0) (ls' := [some (.ref 0), some (.int x1), some (.int x2), none, none]) ?_ rfl ⟨rfl, rfl, rfl, trivial⟩
  refine am_aload_n X dX6_fresh_0 rfl rfl ?_
  refine am_iload_n X dX6_fresh_1 rfl rfl ?_
  refine am_iload_n X dX6_fresh_2 rfl rfl ?_
  obtain ⟨v3, σ3, hc, h⟩ := bd2_some h
  refine am_callv_i2 X dX6_fresh_3 cw_X6_91 (ct_X6_refusalOfTwo hG N _ _ _ _ hc) (Nat.le_of_ble_eq_true rfl) rfl rfl rfl rfl (Nat.le_of_ble_eq_true rfl) ?_
  refine am_istore_n (ls' := [some (.ref 0), some (.int x1), some (.int x2), some (.int v3), none]) X dX6_fresh_6 rfl (by decide)  rfl rfl ?_
  refine am_iload_n X dX6_fresh_7 rfl rfl ?_
  refine am_if_ge (tgt := 13) X dX6_fresh_8 (by decide) (fun c => ?_) (fun c => ?_)
  · have h := if_t h c
    refine am_aload_n X dX6_fresh_13 rfl rfl ?_
    refine am_getf (v := .ref 7) X dX6_fresh_14 fl_X6_35 rfl rfl (by decide) ?_
    refine am_aload_n X dX6_fresh_17 rfl rfl ?_
    refine am_getf (v := .ref 1) X dX6_fresh_18 fl_X6_12 rfl rfl (by decide) ?_
    obtain ⟨σ21, hc, h⟩ := bd_some h
    refine am_callv_v1 X dX6_fresh_21 cw_X6_152 (ct_X1_load hG N _ _ hc) (Nat.le_of_ble_eq_true rfl) rfl rfl rfl rfl (Nat.le_of_ble_eq_true rfl) ?_
    refine am_aload_n X dX6_fresh_24 rfl rfl ?_
    refine am_getf (v := .ref 7) X dX6_fresh_25 fl_X6_35 rfl rfl (by decide) ?_
    refine am_iconst (v := (1 : Int32)) X dX6_fresh_28 (by decide) ?_
    obtain ⟨v29, σ29, hc, h⟩ := bd2_some h
    refine am_callv_i1 X dX6_fresh_29 cw_X6_156 (ct_X1_solve hG N _ _ _ hc) (Nat.le_of_ble_eq_true rfl) rfl rfl rfl rfl (Nat.le_of_ble_eq_true rfl) ?_
    refine am_istore (ls' := [some (.ref 0), some (.int x1), some (.int x2), some (.int v3), some (.int v29)]) X dX6_fresh_32 (by decide)  rfl rfl ?_
    refine am_aload_n X dX6_fresh_34 rfl rfl ?_
    refine am_getf (v := .ref 7) X dX6_fresh_35 fl_X6_35 rfl rfl (by decide) ?_
    refine am_getf (v := .ref 42) X dX6_fresh_38 fl_X6_162 rfl rfl (by decide) ?_
    refine am_iload_n X dX6_fresh_41 rfl rfl ?_
    refine am_dup2 X dX6_fresh_42 rfl rfl ?_
    obtain ⟨g, h⟩ := gd_some h
    refine am_iald X dX6_fresh_43 rfl g ?_
    refine am_iconst (v := (1 : Int32)) X dX6_fresh_44 (by decide) ?_
    refine am_iload_n X dX6_fresh_45 rfl rfl ?_
    refine am_ishl X dX6_fresh_46 ?_
    refine am_ior X dX6_fresh_47 ?_
    obtain ⟨g, h⟩ := gd_some h
    refine am_iast X dX6_fresh_48 rfl g ?_
    refine am_tops h (fun σ48 h => ?_)
    refine am_iload X dX6_fresh_49 rfl ?_
    refine am_aload_n X dX6_fresh_51 rfl rfl ?_
    refine am_getf (v := .ref 7) X dX6_fresh_52 fl_X6_35 rfl rfl (by decide) ?_
    refine am_iconst (v := (1 : Int32)) X dX6_fresh_55 (by decide) ?_
    obtain ⟨v56, σ56, hc, h⟩ := bd2_some h
    refine am_callv_i1 X dX6_fresh_56 cw_X6_156 (ct_X1_solve hG N _ _ _ hc) (Nat.le_of_ble_eq_true rfl) rfl rfl rfl rfl (Nat.le_of_ble_eq_true rfl) ?_
    refine am_isub X dX6_fresh_59 ?_
    obtain rfl := Option.some.inj h
    exact am_iret X h0 dX6_fresh_60 rfl ⟨rfl, rfl⟩
  · have h := if_f h c
    refine am_iload_n X dX6_fresh_11 rfl rfl ?_
    obtain rfl := Option.some.inj h
    exact am_iret X h0 dX6_fresh_12 rfl ⟨rfl, rfl⟩
set_option maxRecDepth 100000 in
set_option maxHeartbeats 4000000 in
theorem ct_X6_gate {G : Cx} (hG : am_G G) (N : Nat) (x1 : Int32) (σ : Sg) (r : Int32 × Sg) (h : f_X6_gate N x1 σ = some r) : am_Ct G 6 yX6_gate mX6_gate [.ref 0, .int x1] σ (am_qi r.1 r.2) := by
  refine am_enter hG rfl rfl (Nat.le_of_ble_eq_true rfl) ?_
  intro K h0 X
  unfold f_X6_gate at h
  refine am_jump (pc' := 0) (ls' := [some (.ref 0), some (.int x1), none]) ?_ rfl ⟨rfl, rfl, trivial⟩
  refine am_aload_n X dX6_gate_0 rfl rfl ?_
  refine am_getf (v := .ref 1) X dX6_gate_1 fl_X6_12 rfl rfl (by decide) ?_
  refine am_iload_n X dX6_gate_4 rfl rfl ?_
  obtain ⟨v5, σ5, hc, h⟩ := bd2_some h
  refine am_callv_i1 X dX6_gate_5 cw_X6_97 (ct_X4_has hG N _ _ _ hc) (Nat.le_of_ble_eq_true rfl) rfl rfl rfl rfl (Nat.le_of_ble_eq_true rfl) ?_
  refine am_if_ne (tgt := 13) X dX6_gate_8 (by decide) (fun c => ?_) (fun c => ?_)
  · have h := if_f h c
    refine am_aload_n X dX6_gate_13 rfl rfl ?_
    refine am_getf (v := .ref 7) X dX6_gate_14 fl_X6_35 rfl rfl (by decide) ?_
    refine am_aload_n X dX6_gate_17 rfl rfl ?_
    refine am_getf (v := .ref 1) X dX6_gate_18 fl_X6_12 rfl rfl (by decide) ?_
    obtain ⟨σ21, hc, h⟩ := bd_some h
    refine am_callv_v1 X dX6_gate_21 cw_X6_152 (ct_X1_load hG N _ _ hc) (Nat.le_of_ble_eq_true rfl) rfl rfl rfl rfl (Nat.le_of_ble_eq_true rfl) ?_
    refine am_aload_n X dX6_gate_24 rfl rfl ?_
    refine am_getf (v := .ref 7) X dX6_gate_25 fl_X6_35 rfl rfl (by decide) ?_
    refine am_iconst (v := (1 : Int32)) X dX6_gate_28 (by decide) ?_
    obtain ⟨v29, σ29, hc, h⟩ := bd2_some h
    refine am_callv_i1 X dX6_gate_29 cw_X6_156 (ct_X1_solve hG N _ _ _ hc) (Nat.le_of_ble_eq_true rfl) rfl rfl rfl rfl (Nat.le_of_ble_eq_true rfl) ?_
    refine am_istore_n (ls' := [some (.ref 0), some (.int x1), some (.int v29)]) X dX6_gate_32 rfl (by decide)  rfl rfl ?_
    refine am_aload_n X dX6_gate_33 rfl rfl ?_
    refine am_getf (v := .ref 7) X dX6_gate_34 fl_X6_35 rfl rfl (by decide) ?_
    refine am_getf (v := .ref 43) X dX6_gate_37 fl_X6_160 rfl rfl (by decide) ?_
    refine am_iload_n X dX6_gate_40 rfl rfl ?_
    refine am_sipush (v := (9999 : Int32)) X dX6_gate_41 (by decide) ?_
    obtain ⟨g, h⟩ := gd_some h
    refine am_iast X dX6_gate_44 rfl g ?_
    refine am_tops h (fun σ44 h => ?_)
    refine am_iload_n X dX6_gate_45 rfl rfl ?_
    refine am_aload_n X dX6_gate_46 rfl rfl ?_
    refine am_getf (v := .ref 7) X dX6_gate_47 fl_X6_35 rfl rfl (by decide) ?_
    refine am_iconst (v := (1 : Int32)) X dX6_gate_50 (by decide) ?_
    obtain ⟨v51, σ51, hc, h⟩ := bd2_some h
    refine am_callv_i1 X dX6_gate_51 cw_X6_156 (ct_X1_solve hG N _ _ _ hc) (Nat.le_of_ble_eq_true rfl) rfl rfl rfl rfl (Nat.le_of_ble_eq_true rfl) ?_
    refine am_isub X dX6_gate_54 ?_
    obtain rfl := Option.some.inj h
    exact am_iret X h0 dX6_gate_55 rfl ⟨rfl, rfl⟩
  · have h := if_t h c
    refine am_iconst (v := (-1 : Int32)) X dX6_gate_11 (by decide) ?_
    obtain rfl := Option.some.inj h
    exact am_iret X h0 dX6_gate_12 rfl ⟨rfl, rfl⟩
