set_option maxRecDepth 100000 in
set_option maxHeartbeats 4000000 in
theorem ct_X0_forget {G : Cx} (hG : am_G G) (N : Nat) (σ : Sg) (r : Sg) (h : f_X0_forget N σ = some r) : am_Ct G 1 yX0_forget mX0_forget [.ref 9] σ (am_qv r) := by
  refine am_enter hG rfl rfl (Nat.le_of_ble_eq_true rfl) ?_
  intro K h0 X
  unfold f_X0_forget at h
  refine am_jump (pc' := 0) (ls' := [some (.ref 9)]) ?_ rfl ⟨rfl, trivial⟩
  refine am_aload_n X dX0_forget_0 rfl rfl ?_
  refine am_iconst (v := (0 : Int32)) X dX0_forget_1 (by decide) ?_
  refine am_putfi X dX0_forget_2 fp_X0_15 rfl rfl ?_
  refine am_tops h (fun σ2 h => ?_)
  obtain rfl := Option.some.inj h
  exact am_vret X h0 dX0_forget_5 rfl ⟨rfl, rfl⟩
set_option maxRecDepth 100000 in
set_option maxHeartbeats 4000000 in
theorem t_X4_has_16 {G : Cx} (hG : am_G G) (N : Nat) (σ : Sg) (r : Int32 × Sg) (h : b_X4_has_16 N σ = some r) : am_Wp G mX4_has 0 (am_qi r.1 r.2) 16 [none, none] [] σ := by
  intro K h0 X
  unfold b_X4_has_16 at h
  refine am_iconst (v := (0 : Int32)) X dX4_has_16 (by decide) ?_
  obtain rfl := Option.some.inj h
  exact am_zret X h0 dX4_has_17 rfl (by decide) ⟨rfl, rfl⟩
set_option maxRecDepth 100000 in
set_option maxHeartbeats 4000000 in
theorem ct_X4_has {G : Cx} (hG : am_G G) (N : Nat) (x1 : Int32) (σ : Sg) (r : Int32 × Sg) (h : f_X4_has N x1 σ = some r) : am_Ct G 1 yX4_has mX4_has [.ref 1, .int x1] σ (am_qi r.1 r.2) := by
  refine am_enter hG rfl rfl (Nat.le_of_ble_eq_true rfl) ?_
  intro K h0 X
  unfold f_X4_has at h
  refine am_jump (pc' := 0) (ls' := [some (.ref 1), some (.int x1)]) ?_ rfl ⟨rfl, rfl, trivial⟩
  refine am_iload_n X dX4_has_0 rfl rfl ?_
  refine am_if_lt (tgt := 16) X dX4_has_1 (by decide) (fun c => ?_) (fun c => ?_)
  · have h := if_t h c
    exact am_jump (t_X4_has_16 hG N _ _ h K h0 X) rfl trivial
  · have h := if_f h c
    refine am_iload_n X dX4_has_4 rfl rfl ?_
    refine am_aload_n X dX4_has_5 rfl rfl ?_
    refine am_getf (v := .int (rg σ 1 0)) X dX4_has_6 fl_X4_43 rfl rfl (by decide) ?_
    refine am_icmp_ge (tgt := 16) X dX4_has_9 (by decide) (fun c => ?_) (fun c => ?_)
    · have h := if_t h c
      exact am_jump (t_X4_has_16 hG N _ _ h K h0 X) rfl trivial
    · have h := if_f h c
      refine am_iconst (v := (1 : Int32)) X dX4_has_12 (by decide) ?_
      refine am_goto (tgt := 17) X dX4_has_13 (by decide) ?_
      obtain rfl := Option.some.inj h
      exact am_zret X h0 dX4_has_17 rfl (by decide) ⟨rfl, rfl⟩
set_option maxRecDepth 100000 in
set_option maxHeartbeats 4000000 in
theorem t_X0_note_19 {G : Cx} (hG : am_G G) (N : Nat) (σ : Sg) (r : Sg) (h : b_X0_note_19 N σ = some r) : am_Wp G mX0_note 0 (am_qv r) 19 [some (.ref 9), none] [] σ := by
  intro K h0 X
  unfold b_X0_note_19 at h
  refine am_aload_n X dX0_note_19 rfl rfl ?_
  refine am_dup X dX0_note_20 rfl ?_
  refine am_getf (v := .int (rg σ 9 0)) X dX0_note_21 fl_X0_15 rfl rfl (by decide) ?_
  refine am_iconst (v := (1 : Int32)) X dX0_note_24 (by decide) ?_
  refine am_iadd X dX0_note_25 ?_
  refine am_putfi X dX0_note_26 fp_X0_15 rfl rfl ?_
  refine am_tops h (fun σ26 h => ?_)
  obtain rfl := Option.some.inj h
  exact am_vret X h0 dX0_note_29 rfl ⟨rfl, rfl⟩
set_option maxRecDepth 100000 in
set_option maxHeartbeats 4000000 in
theorem ct_X0_note {G : Cx} (hG : am_G G) (N : Nat) (x1 : Int32) (σ : Sg) (r : Sg) (h : f_X0_note N x1 σ = some r) : am_Ct G 1 yX0_note mX0_note [.ref 9, .int x1] σ (am_qv r) := by
  refine am_enter hG rfl rfl (Nat.le_of_ble_eq_true rfl) ?_
  intro K h0 X
  unfold f_X0_note at h
  refine am_jump (pc' := 0) (ls' := [some (.ref 9), some (.int x1)]) ?_ rfl ⟨rfl, rfl, trivial⟩
  refine am_aload_n X dX0_note_0 rfl rfl ?_
  refine am_getf (v := .int (rg σ 9 0)) X dX0_note_1 fl_X0_15 rfl rfl (by decide) ?_
  refine am_bipush (v := (20 : Int32)) X dX0_note_4 (by decide) ?_
  refine am_icmp_ge (tgt := 19) X dX0_note_6 (by decide) (fun c => ?_) (fun c => ?_)
  · have h := if_t h c
    exact am_jump (t_X0_note_19 hG N _ _ h K h0 X) rfl ⟨rfl, trivial⟩
  · have h := if_f h c
    refine am_aload_n X dX0_note_9 rfl rfl ?_
    refine am_getf (v := .ref 59) X dX0_note_10 fl_X0_11 rfl rfl (by decide) ?_
    refine am_aload_n X dX0_note_13 rfl rfl ?_
    refine am_getf (v := .int (rg σ 9 0)) X dX0_note_14 fl_X0_15 rfl rfl (by decide) ?_
    refine am_iload_n X dX0_note_17 rfl rfl ?_
    obtain ⟨g, h⟩ := gd_some h
    refine am_iast X dX0_note_18 rfl g ?_
    refine am_tops h (fun σ18 h => ?_)
    exact am_jump (t_X0_note_19 hG N _ _ h K h0 X) rfl ⟨rfl, trivial⟩
set_option maxRecDepth 100000 in
set_option maxHeartbeats 4000000 in
theorem ct_X0_runBody {G : Cx} (hG : am_G G) (N : Nat) (dk : Nat) (hdk : 2 ≤ dk) (kr : Int32 → Int32 → Int32 → Int32 → Sg → Option (Int32 × Sg)) (hkr : ∀ (x1 : Int32) (x2 : Int32) (x3 : Int32) (x4 : Int32) (σ : Sg) (r : Int32 × Sg), kr x1 x2 x3 x4 σ = some r → am_Ct G dk yX0_run mX0_run [.ref 9, .int x1, .int x2, .int x3, .int x4] σ (am_qi r.1 r.2)) (x1 : Int32) (x2 : Int32) (x3 : Int32) (x4 : Int32) (σ : Sg) (r : Int32 × Sg) (h : f_X0_runBody N kr x1 x2 x3 x4 σ = some r) : am_Ct G (dk + 1) yX0_runBody mX0_runBody [.ref 9, .int x1, .int x2, .int x3, .int x4] σ (am_qi r.1 r.2) := by
  refine am_enter hG rfl rfl (Nat.le_of_ble_eq_true rfl) ?_
  intro K h0 X
  unfold f_X0_runBody at h
  refine am_jump (pc' := 0) (ls' := [some (.ref 9), some (.int x1), some (.int x2), some (.int x3), some (.int x4)]) ?_ rfl ⟨rfl, rfl, rfl, rfl, rfl, trivial⟩
  refine am_aload_n X dX0_runBody_0 rfl rfl ?_
  refine am_iload_n X dX0_runBody_1 rfl rfl ?_
  obtain ⟨σ2, hc, h⟩ := bd_some h
  refine am_callv_v1 X dX0_runBody_2 cw_X0_47 (ct_X0_note hG N _ _ _ hc) (by omega) rfl rfl rfl rfl (Nat.le_of_ble_eq_true rfl) ?_
  refine am_iload_n X dX0_runBody_5 rfl rfl ?_
  by_cases c1 : x1 = (1 : Int32)
  · have h := if_t h c1
    refine am_lkIn (off := 82) (tgt := 88) X dX0_runBody_6 c1 (by decide) (by decide) (by decide) ?_
    refine am_iload_n X dX0_runBody_88 rfl rfl ?_
    refine am_aload_n X dX0_runBody_89 rfl rfl ?_
    refine am_getf (v := .int (rg σ2 9 2)) X dX0_runBody_90 fl_X0_19 rfl rfl (by decide) ?_
    refine am_iadd X dX0_runBody_93 ?_
    obtain rfl := Option.some.inj h
    exact am_iret X h0 dX0_runBody_94 rfl ⟨rfl, rfl⟩
  have h := if_f h c1
  by_cases c2 : x1 = (2 : Int32)
  · have h := if_t h c2
    refine am_lkIn (off := 89) (tgt := 95) X dX0_runBody_6 c2 (by decide) (by decide) (by decide) ?_
    refine am_aload_n X dX0_runBody_95 rfl rfl ?_
    refine am_aload_n X dX0_runBody_96 rfl rfl ?_
    refine am_getf (v := .int (rg σ2 9 3)) X dX0_runBody_97 fl_X0_27 rfl rfl (by decide) ?_
    refine am_iconst (v := (0 : Int32)) X dX0_runBody_100 (by decide) ?_
    refine am_iload_n X dX0_runBody_101 rfl rfl ?_
    refine am_iload X dX0_runBody_102 rfl ?_
    obtain ⟨v104, σ104, hc, h⟩ := bd2_some h
    refine am_callv_i4 X dX0_runBody_104 cw_X0_34 (hkr _ _ _ _ _ _ hc) (by omega) rfl rfl rfl rfl (Nat.le_of_ble_eq_true rfl) ?_
    refine am_aload_n X dX0_runBody_107 rfl rfl ?_
    refine am_getf (v := .int (rg σ104 9 4)) X dX0_runBody_108 fl_X0_32 rfl rfl (by decide) ?_
    refine am_isub X dX0_runBody_111 ?_
    obtain rfl := Option.some.inj h
    exact am_iret X h0 dX0_runBody_112 rfl ⟨rfl, rfl⟩
  have h := if_f h c2
  by_cases c3 : x1 = (3 : Int32)
  · have h := if_t h c3
    refine am_lkIn (off := 107) (tgt := 113) X dX0_runBody_6 c3 (by decide) (by decide) (by decide) ?_
    refine am_aload_n X dX0_runBody_113 rfl rfl ?_
    refine am_aload_n X dX0_runBody_114 rfl rfl ?_
    refine am_getf (v := .int (rg σ2 9 3)) X dX0_runBody_115 fl_X0_27 rfl rfl (by decide) ?_
    refine am_iconst (v := (1 : Int32)) X dX0_runBody_118 (by decide) ?_
    refine am_iload_n X dX0_runBody_119 rfl rfl ?_
    refine am_iload X dX0_runBody_120 rfl ?_
    obtain ⟨v122, σ122, hc, h⟩ := bd2_some h
    refine am_callv_i4 X dX0_runBody_122 cw_X0_34 (hkr _ _ _ _ _ _ hc) (by omega) rfl rfl rfl rfl (Nat.le_of_ble_eq_true rfl) ?_
    refine am_iconst (v := (2 : Int32)) X dX0_runBody_125 (by decide) ?_
    refine am_imul X dX0_runBody_126 ?_
    obtain rfl := Option.some.inj h
    exact am_iret X h0 dX0_runBody_127 rfl ⟨rfl, rfl⟩
  have h := if_f h c3
  by_cases c11 : x1 = (11 : Int32)
  · have h := if_t h c11
    refine am_lkIn (off := 122) (tgt := 128) X dX0_runBody_6 c11 (by decide) (by decide) (by decide) ?_
    refine am_aload_n X dX0_runBody_128 rfl rfl ?_
    refine am_iload_n X dX0_runBody_129 rfl rfl ?_
    refine am_iconst (v := (0 : Int32)) X dX0_runBody_130 (by decide) ?_
    refine am_iload_n X dX0_runBody_131 rfl rfl ?_
    refine am_iconst (v := (3 : Int32)) X dX0_runBody_132 (by decide) ?_
    refine am_imul X dX0_runBody_133 ?_
    refine am_iload X dX0_runBody_134 rfl ?_
    obtain ⟨v136, σ136, hc, h⟩ := bd2_some h
    refine am_callv_i4 X dX0_runBody_136 cw_X0_34 (hkr _ _ _ _ _ _ hc) (by omega) rfl rfl rfl rfl (Nat.le_of_ble_eq_true rfl) ?_
    obtain rfl := Option.some.inj h
    exact am_iret X h0 dX0_runBody_139 rfl ⟨rfl, rfl⟩
  have h := if_f h c11
  by_cases c21 : x1 = (21 : Int32)
  · have h := if_t h c21
    refine am_lkIn (off := 134) (tgt := 140) X dX0_runBody_6 c21 (by decide) (by decide) (by decide) ?_
    refine am_aload_n X dX0_runBody_140 rfl rfl ?_
    refine am_iload_n X dX0_runBody_141 rfl rfl ?_
    refine am_iconst (v := (1 : Int32)) X dX0_runBody_142 (by decide) ?_
    refine am_iload_n X dX0_runBody_143 rfl rfl ?_
    refine am_iload X dX0_runBody_144 rfl ?_
    obtain ⟨v146, σ146, hc, h⟩ := bd2_some h
    refine am_callv_i4 X dX0_runBody_146 cw_X0_34 (hkr _ _ _ _ _ _ hc) (by omega) rfl rfl rfl rfl (Nat.le_of_ble_eq_true rfl) ?_
    refine am_ineg X dX0_runBody_149 ?_
    obtain rfl := Option.some.inj h
    exact am_iret X h0 dX0_runBody_150 rfl ⟨rfl, rfl⟩
  have h := if_f h c21
  by_cases c31 : x1 = (31 : Int32)
  · have h := if_t h c31
    refine am_lkIn (off := 145) (tgt := 151) X dX0_runBody_6 c31 (by decide) (by decide) (by decide) ?_
    refine am_aload_n X dX0_runBody_151 rfl rfl ?_
    refine am_iload_n X dX0_runBody_152 rfl rfl ?_
    refine am_iconst (v := (2 : Int32)) X dX0_runBody_153 (by decide) ?_
    refine am_iload_n X dX0_runBody_154 rfl rfl ?_
    refine am_iload X dX0_runBody_155 rfl ?_
    obtain ⟨v157, σ157, hc, h⟩ := bd2_some h
    refine am_callv_i4 X dX0_runBody_157 cw_X0_34 (hkr _ _ _ _ _ _ hc) (by omega) rfl rfl rfl rfl (Nat.le_of_ble_eq_true rfl) ?_
    refine am_bipush (v := (7 : Int32)) X dX0_runBody_160 (by decide) ?_
    refine am_ixor X dX0_runBody_162 ?_
    obtain rfl := Option.some.inj h
    exact am_iret X h0 dX0_runBody_163 rfl ⟨rfl, rfl⟩
  have h := if_f h c31
  by_cases c41 : x1 = (41 : Int32)
  · have h := if_t h c41
    refine am_lkIn (off := 158) (tgt := 164) X dX0_runBody_6 c41 (by decide) (by decide) (by decide) ?_
    refine am_aload_n X dX0_runBody_164 rfl rfl ?_
    refine am_iload_n X dX0_runBody_165 rfl rfl ?_
    refine am_iconst (v := (2 : Int32)) X dX0_runBody_166 (by decide) ?_
    refine am_iload_n X dX0_runBody_167 rfl rfl ?_
    refine am_iconst (v := (1 : Int32)) X dX0_runBody_168 (by decide) ?_
    refine am_isub X dX0_runBody_169 ?_
    refine am_iload X dX0_runBody_170 rfl ?_
    obtain ⟨v172, σ172, hc, h⟩ := bd2_some h
    refine am_callv_i4 X dX0_runBody_172 cw_X0_34 (hkr _ _ _ _ _ _ hc) (by omega) rfl rfl rfl rfl (Nat.le_of_ble_eq_true rfl) ?_
    refine am_aload_n X dX0_runBody_175 rfl rfl ?_
    refine am_aload_n X dX0_runBody_176 rfl rfl ?_
    refine am_getf (v := .int (rg σ172 9 3)) X dX0_runBody_177 fl_X0_27 rfl rfl (by decide) ?_
    refine am_iconst (v := (0 : Int32)) X dX0_runBody_180 (by decide) ?_
    refine am_iconst (v := (2 : Int32)) X dX0_runBody_181 (by decide) ?_
    refine am_iload X dX0_runBody_182 rfl ?_
    obtain ⟨v184, σ184, hc, h⟩ := bd2_some h
    refine am_callv_i4 X dX0_runBody_184 cw_X0_34 (hkr _ _ _ _ _ _ hc) (by omega) rfl rfl rfl rfl (Nat.le_of_ble_eq_true rfl) ?_
    refine am_iadd X dX0_runBody_187 ?_
    obtain rfl := Option.some.inj h
    exact am_iret X h0 dX0_runBody_188 rfl ⟨rfl, rfl⟩
  have h := if_f h c41
  by_cases c51 : x1 = (51 : Int32)
  · have h := if_t h c51
    refine am_lkIn (off := 183) (tgt := 189) X dX0_runBody_6 c51 (by decide) (by decide) (by decide) ?_
    refine am_aload_n X dX0_runBody_189 rfl rfl ?_
    refine am_iload_n X dX0_runBody_190 rfl rfl ?_
    refine am_iconst (v := (0 : Int32)) X dX0_runBody_191 (by decide) ?_
    refine am_iload_n X dX0_runBody_192 rfl rfl ?_
    refine am_iload X dX0_runBody_193 rfl ?_
    obtain ⟨v195, σ195, hc, h⟩ := bd2_some h
    refine am_callv_i4 X dX0_runBody_195 cw_X0_34 (hkr _ _ _ _ _ _ hc) (by omega) rfl rfl rfl rfl (Nat.le_of_ble_eq_true rfl) ?_
    refine am_aload_n X dX0_runBody_198 rfl rfl ?_
    refine am_getf (v := .int (rg σ195 9 2)) X dX0_runBody_199 fl_X0_19 rfl rfl (by decide) ?_
    refine am_ixor X dX0_runBody_202 ?_
    obtain rfl := Option.some.inj h
    exact am_iret X h0 dX0_runBody_203 rfl ⟨rfl, rfl⟩
  have h := if_f h c51
  by_cases c61 : x1 = (61 : Int32)
  · have h := if_t h c61
    refine am_lkIn (off := 198) (tgt := 204) X dX0_runBody_6 c61 (by decide) (by decide) (by decide) ?_
    refine am_aload_n X dX0_runBody_204 rfl rfl ?_
    refine am_iload_n X dX0_runBody_205 rfl rfl ?_
    refine am_iconst (v := (1 : Int32)) X dX0_runBody_206 (by decide) ?_
    refine am_iload_n X dX0_runBody_207 rfl rfl ?_
    refine am_iload X dX0_runBody_208 rfl ?_
    obtain ⟨v210, σ210, hc, h⟩ := bd2_some h
    refine am_callv_i4 X dX0_runBody_210 cw_X0_34 (hkr _ _ _ _ _ _ hc) (by omega) rfl rfl rfl rfl (Nat.le_of_ble_eq_true rfl) ?_
    refine am_aload_n X dX0_runBody_213 rfl rfl ?_
    refine am_getf (v := .int (rg σ210 9 4)) X dX0_runBody_214 fl_X0_32 rfl rfl (by decide) ?_
    refine am_iadd X dX0_runBody_217 ?_
    obtain rfl := Option.some.inj h
    exact am_iret X h0 dX0_runBody_218 rfl ⟨rfl, rfl⟩
  have h := if_f h c61
  refine am_lkOut (tgt := 219) (vs := [(1 : Int32), (2 : Int32), (3 : Int32), (11 : Int32), (21 : Int32), (31 : Int32), (41 : Int32), (51 : Int32), (61 : Int32)]) X dX0_runBody_6 (List.forall_mem_cons.mpr ⟨c1, (List.forall_mem_cons.mpr ⟨c2, (List.forall_mem_cons.mpr ⟨c3, (List.forall_mem_cons.mpr ⟨c11, (List.forall_mem_cons.mpr ⟨c21, (List.forall_mem_cons.mpr ⟨c31, (List.forall_mem_cons.mpr ⟨c41, (List.forall_mem_cons.mpr ⟨c51, (List.forall_mem_cons.mpr ⟨c61, (fun _ h => absurd h List.not_mem_nil)⟩)⟩)⟩)⟩)⟩)⟩)⟩)⟩)⟩) (by decide) (by decide) (by decide) ?_
  refine am_iconst (v := (0 : Int32)) X dX0_runBody_219 (by decide) ?_
  obtain rfl := Option.some.inj h
  exact am_iret X h0 dX0_runBody_220 rfl ⟨rfl, rfl⟩
set_option maxRecDepth 100000 in
set_option maxHeartbeats 4000000 in
theorem t_X0_run_64 {G : Cx} (hG : am_G G) (N : Nat) (dk : Nat) (hdk : 2 ≤ dk) (kr : Int32 → Int32 → Int32 → Int32 → Sg → Option (Int32 × Sg)) (hkr : ∀ (x1 : Int32) (x2 : Int32) (x3 : Int32) (x4 : Int32) (σ : Sg) (r : Int32 × Sg), kr x1 x2 x3 x4 σ = some r → am_Ct G dk yX0_run mX0_run [.ref 9, .int x1, .int x2, .int x3, .int x4] σ (am_qi r.1 r.2)) (x2 : Int32) (x3 : Int32) (x4 : Int32) (x5 : Int32) (σ : Sg) (r : Int32 × Sg) (h : b_X0_run_64 N kr x2 x3 x4 x5 σ = some r) : am_Wp G mX0_run (dk + 1) (am_qi r.1 r.2) 64 [some (.ref 9), none, some (.int x2), some (.int x3), some (.int x4), some (.int x5), none] [] σ := by
  intro K h0 X
  unfold b_X0_run_64 at h
  refine am_aload_n X dX0_run_64 rfl rfl ?_
  refine am_gets_bodies X dX0_run_65 (wm_r37 _ (List.mem_of_getElem? (i := 6) rfl)) ?_
  refine am_iload X dX0_run_68 rfl ?_
  refine am_iconst (v := (3 : Int32)) X dX0_run_70 (by decide) ?_
  refine am_imul X dX0_run_71 ?_
  refine am_iload_n X dX0_run_72 rfl rfl ?_
  refine am_iadd X dX0_run_73 ?_
  obtain ⟨g, h⟩ := gd_some h
  refine am_ald_bodies X dX0_run_74 g ?_
  refine am_gets_aboveN X rfl dX0_run_75 ?_
  refine am_iload X dX0_run_78 rfl ?_
  obtain ⟨g, h⟩ := gd_some h
  refine am_ald_above X dX0_run_80 g ?_
  refine am_iload_n X dX0_run_81 rfl rfl ?_
  refine am_iload X dX0_run_82 rfl ?_
  refine am_iconst (v := (1 : Int32)) X dX0_run_84 (by decide) ?_
  refine am_iadd X dX0_run_85 ?_
  obtain ⟨v86, σ86, hc, h⟩ := bd2_some h
  refine am_callv_i4 X dX0_run_86 cw_X0_44 (ct_X0_runBody hG N dk hdk kr hkr _ _ _ _ _ _ hc) (by omega) rfl rfl rfl rfl (Nat.le_of_ble_eq_true rfl) ?_
  obtain rfl := Option.some.inj h
  exact am_iret X h0 dX0_run_89 rfl ⟨rfl, rfl⟩
set_option maxRecDepth 100000 in
set_option maxHeartbeats 4000000 in
theorem t_X0_run_25b {G : Cx} (hG : am_G G) (N : Nat) (dk : Nat) (hdk : 2 ≤ dk) (kr : Int32 → Int32 → Int32 → Int32 → Sg → Option (Int32 × Sg)) (hkr : ∀ (x1 : Int32) (x2 : Int32) (x3 : Int32) (x4 : Int32) (σ : Sg) (r : Int32 × Sg), kr x1 x2 x3 x4 σ = some r → am_Ct G dk yX0_run mX0_run [.ref 9, .int x1, .int x2, .int x3, .int x4] σ (am_qi r.1 r.2)) (k25 : Int32 → Int32 → Int32 → Int32 → Int32 → Sg → Option (Int32 × Sg)) (hk25 : ∀ (x2 : Int32) (x3 : Int32) (x4 : Int32) (x5 : Int32) (x6 : Int32) (σ : Sg) (r : Int32 × Sg), k25 x2 x3 x4 x5 x6 σ = some r → am_Wp G mX0_run (dk + 1) (am_qi r.1 r.2) 25 [some (.ref 9), none, some (.int x2), some (.int x3), some (.int x4), some (.int x5), some (.int x6)] [] σ) (x2 : Int32) (x3 : Int32) (x4 : Int32) (x5 : Int32) (x6 : Int32) (σ : Sg) (r : Int32 × Sg) (h : b_X0_run_25b N kr k25 x2 x3 x4 x5 x6 σ = some r) : am_Wp G mX0_run (dk + 1) (am_qi r.1 r.2) 25 [some (.ref 9), none, some (.int x2), some (.int x3), some (.int x4), some (.int x5), some (.int x6)] [] σ := by
  intro K h0 X
  unfold b_X0_run_25b at h
  refine am_iload X dX0_run_25 rfl ?_
  refine am_bipush (v := (7 : Int32)) X dX0_run_27 (by decide) ?_
  refine am_icmp_ge (tgt := 64) X dX0_run_29 (by decide) (fun c => ?_) (fun c => ?_)
  · have h := if_t h c
    exact am_jump (t_X0_run_64 hG N dk hdk kr hkr _ _ _ _ _ _ h K h0 X) rfl ⟨rfl, rfl, rfl, rfl, rfl, trivial⟩
  · have h := if_f h c
    refine am_iload X dX0_run_32 rfl ?_
    refine am_if_le (tgt := 64) X dX0_run_34 (by decide) (fun c => ?_) (fun c => ?_)
    · have h := if_t h c
      exact am_jump (t_X0_run_64 hG N dk hdk kr hkr _ _ _ _ _ _ h K h0 X) rfl ⟨rfl, rfl, rfl, rfl, rfl, trivial⟩
    · have h := if_f h c
      refine am_gets_bodies X dX0_run_37 (wm_r37 _ (List.mem_of_getElem? (i := 6) rfl)) ?_
      refine am_iload X dX0_run_40 rfl ?_
      refine am_iconst (v := (3 : Int32)) X dX0_run_42 (by decide) ?_
      refine am_imul X dX0_run_43 ?_
      refine am_iload_n X dX0_run_44 rfl rfl ?_
      refine am_iadd X dX0_run_45 ?_
      obtain ⟨g, h⟩ := gd_some h
      refine am_ald_bodies X dX0_run_46 g ?_
      refine am_if_ne (tgt := 64) X dX0_run_47 (by decide) (fun c => ?_) (fun c => ?_)
      · have h := if_f h c
        exact am_jump (t_X0_run_64 hG N dk hdk kr hkr _ _ _ _ _ _ h K h0 X) rfl ⟨rfl, rfl, rfl, rfl, rfl, trivial⟩
      · have h := if_t h c
        refine am_gets_aboveN X rfl dX0_run_50 ?_
        refine am_iload X dX0_run_53 rfl ?_
        obtain ⟨g, h⟩ := gd_some h
        refine am_ald_above X dX0_run_55 g ?_
        refine am_topi h (fun x5_56 h => ?_)
        refine am_istore (ls' := [some (.ref 9), none, some (.int x2), some (.int x3), some (.int x4), some (.int x5_56), some (.int x6)]) X dX0_run_56 (by decide)  rfl rfl ?_
        refine am_iinc (ls' := fun x6_58 => [some (.ref 9), none, some (.int x2), some (.int x3), some (.int x4), some (.int x5_56), some (.int x6_58)]) X dX0_run_58 rfl h (by decide) (by decide) rfl (fun _ => rfl) (fun x6_58 h => ?_)
        refine am_goto (tgt := 25) X dX0_run_61 (by decide) ?_
        exact am_jump (hk25 _ _ _ _ _ _ _ h K h0 X) rfl ⟨rfl, rfl, rfl, rfl, rfl, rfl, trivial⟩
set_option maxRecDepth 100000 in
set_option maxHeartbeats 4000000 in
theorem t_X0_run_25 {G : Cx} (hG : am_G G) (N : Nat) (dk : Nat) (hdk : 2 ≤ dk) (kr : Int32 → Int32 → Int32 → Int32 → Sg → Option (Int32 × Sg)) (hkr : ∀ (x1 : Int32) (x2 : Int32) (x3 : Int32) (x4 : Int32) (σ : Sg) (r : Int32 × Sg), kr x1 x2 x3 x4 σ = some r → am_Ct G dk yX0_run mX0_run [.ref 9, .int x1, .int x2, .int x3, .int x4] σ (am_qi r.1 r.2)) : ∀ (n : Nat) (x2 : Int32) (x3 : Int32) (x4 : Int32) (x5 : Int32) (x6 : Int32) (σ : Sg) (r : Int32 × Sg), b_X0_run_25 N kr n x2 x3 x4 x5 x6 σ = some r → am_Wp G mX0_run (dk + 1) (am_qi r.1 r.2) 25 [some (.ref 9), none, some (.int x2), some (.int x3), some (.int x4), some (.int x5), some (.int x6)] [] σ := by
  intro n
  induction n with
  | zero => intro x2 x3 x4 x5 x6 σ r h; cases h
  | succ n ih => intro x2 x3 x4 x5 x6 σ r h; exact t_X0_run_25b hG N dk hdk kr hkr (b_X0_run_25 N kr n) ih x2 x3 x4 x5 x6 σ r h
set_option maxRecDepth 100000 in
set_option maxHeartbeats 4000000 in
theorem ct_X0_run_b {G : Cx} (hG : am_G G) (N : Nat) (dk : Nat) (hdk : 2 ≤ dk) (kr : Int32 → Int32 → Int32 → Int32 → Sg → Option (Int32 × Sg)) (hkr : ∀ (x1 : Int32) (x2 : Int32) (x3 : Int32) (x4 : Int32) (σ : Sg) (r : Int32 × Sg), kr x1 x2 x3 x4 σ = some r → am_Ct G dk yX0_run mX0_run [.ref 9, .int x1, .int x2, .int x3, .int x4] σ (am_qi r.1 r.2)) (x1 : Int32) (x2 : Int32) (x3 : Int32) (x4 : Int32) (σ : Sg) (r : Int32 × Sg) (h : f_X0_run_b N kr x1 x2 x3 x4 σ = some r) : am_Ct G (dk + 2) yX0_run mX0_run [.ref 9, .int x1, .int x2, .int x3, .int x4] σ (am_qi r.1 r.2) := by
  refine am_enter hG rfl rfl (Nat.le_of_ble_eq_true rfl) ?_
  intro K h0 X
  unfold f_X0_run_b at h
  refine am_jump (pc' := 0) (ls' := [some (.ref 9), some (.int x1), some (.int x2), some (.int x3), some (.int x4), none, none]) ?_ rfl ⟨rfl, rfl, rfl, rfl, rfl, trivial⟩
  refine am_iload_n X dX0_run_0 rfl rfl ?_
  refine am_if_lt (tgt := 17) X dX0_run_1 (by decide) (fun c => ?_) (fun c => ?_)
  · have h := if_t h c
    refine am_iconst (v := (0 : Int32)) X dX0_run_17 (by decide) ?_
    obtain rfl := Option.some.inj h
    exact am_iret X h0 dX0_run_18 rfl ⟨rfl, rfl⟩
  · have h := if_f h c
    refine am_iload_n X dX0_run_4 rfl rfl ?_
    refine am_bipush (v := (7 : Int32)) X dX0_run_5 (by decide) ?_
    refine am_icmp_ge (tgt := 17) X dX0_run_7 (by decide) (fun c => ?_) (fun c => ?_)
    · have h := if_t h c
      refine am_iconst (v := (0 : Int32)) X dX0_run_17 (by decide) ?_
      obtain rfl := Option.some.inj h
      exact am_iret X h0 dX0_run_18 rfl ⟨rfl, rfl⟩
    · have h := if_f h c
      refine am_iload X dX0_run_10 rfl ?_
      refine am_bipush (v := (40 : Int32)) X dX0_run_12 (by decide) ?_
      refine am_icmp_le (tgt := 19) X dX0_run_14 (by decide) (fun c => ?_) (fun c => ?_)
      · have h := if_t h c
        refine am_iload_n X dX0_run_19 rfl rfl ?_
        refine am_istore (ls' := [some (.ref 9), some (.int x1), some (.int x2), some (.int x3), some (.int x4), some (.int x1), none]) X dX0_run_20 (by decide)  rfl rfl ?_
        refine am_iconst (v := (0 : Int32)) X dX0_run_22 (by decide) ?_
        refine am_istore (ls' := [some (.ref 9), some (.int x1), some (.int x2), some (.int x3), some (.int x4), some (.int x1), some (.int (0 : Int32))]) X dX0_run_23 (by decide)  rfl rfl ?_
        exact am_jump (t_X0_run_25 hG N dk hdk kr hkr N _ _ _ _ _ _ _ h K h0 X) rfl ⟨rfl, rfl, rfl, rfl, rfl, rfl, trivial⟩
      · have h := if_f h c
        refine am_iconst (v := (0 : Int32)) X dX0_run_17 (by decide) ?_
        obtain rfl := Option.some.inj h
        exact am_iret X h0 dX0_run_18 rfl ⟨rfl, rfl⟩
set_option maxRecDepth 100000 in
set_option maxHeartbeats 4000000 in
theorem ct_X0_run {G : Cx} (hG : am_G G) (N : Nat) : ∀ (D : Nat) (x1 : Int32) (x2 : Int32) (x3 : Int32) (x4 : Int32) (σ : Sg) (r : Int32 × Sg), f_X0_run N D x1 x2 x3 x4 σ = some r → am_Ct G (2 + 2 * D) yX0_run mX0_run [.ref 9, .int x1, .int x2, .int x3, .int x4] σ (am_qi r.1 r.2) := by
  intro D
  induction D with
  | zero => intro x1 x2 x3 x4 σ r h; cases h
  | succ D ih => intro x1 x2 x3 x4 σ r h; exact (ct_X0_run_b hG N (2 + 2 * D) (by omega) (f_X0_run N D) ih x1 x2 x3 x4 σ r h)
set_option maxRecDepth 100000 in
set_option maxHeartbeats 4000000 in
theorem ct_X0_perform {G : Cx} (hG : am_G G) (N : Nat) (x2 : Int32) (x3 : Int32) (x4 : Int32) (σ : Sg) (r : Int32 × Sg) (h : f_X0_perform N x2 x3 x4 σ = some r) : am_Ct G 43 yX0_perform mX0_perform [.ref 9, .ref 1, .int x2, .int x3, .int x4] σ (am_qi r.1 r.2) := by
  refine am_enter hG rfl rfl (Nat.le_of_ble_eq_true rfl) ?_
  intro K h0 X
  unfold f_X0_perform at h
  refine am_jump (pc' := 0) (ls' := [some (.ref 9), some (.ref 1), some (.int x2), some (.int x3), some (.int x4)]) ?_ rfl ⟨rfl, rfl, rfl, rfl, rfl, trivial⟩
  refine am_aload_n X dX0_perform_0 rfl rfl ?_
  refine am_iload_n X dX0_perform_1 rfl rfl ?_
  refine am_putfi X dX0_perform_2 fp_X0_19 rfl rfl ?_
  refine am_tops h (fun σ2 h => ?_)
  refine am_aload_n X dX0_perform_5 rfl rfl ?_
  refine am_aload_n X dX0_perform_6 rfl rfl ?_
  refine am_getf (v := .ref 10) X dX0_perform_7 fl_X0_22 rfl rfl (by decide) ?_
  refine am_iload_n X dX0_perform_10 rfl rfl ?_
  obtain ⟨g, h⟩ := gd_some h
  refine am_iald X dX0_perform_11 rfl g ?_
  refine am_putfi X dX0_perform_12 fp_X0_27 rfl rfl ?_
  refine am_tops h (fun σ12 h => ?_)
  refine am_aload_n X dX0_perform_15 rfl rfl ?_
  refine am_aload_n X dX0_perform_16 rfl rfl ?_
  refine am_getf (v := .ref 11) X dX0_perform_17 fl_X0_29 rfl rfl (by decide) ?_
  refine am_iload_n X dX0_perform_20 rfl rfl ?_
  obtain ⟨g, h⟩ := gd_some h
  refine am_iald X dX0_perform_21 rfl g ?_
  refine am_putfi X dX0_perform_22 fp_X0_32 rfl rfl ?_
  refine am_tops h (fun σ22 h => ?_)
  refine am_aload_n X dX0_perform_25 rfl rfl ?_
  refine am_aload_n X dX0_perform_26 rfl rfl ?_
  refine am_getf (v := .int (rg σ22 9 3)) X dX0_perform_27 fl_X0_27 rfl rfl (by decide) ?_
  refine am_iload_n X dX0_perform_30 rfl rfl ?_
  refine am_iload X dX0_perform_31 rfl ?_
  refine am_iconst (v := (0 : Int32)) X dX0_perform_33 (by decide) ?_
  obtain ⟨v34, σ34, hc, h⟩ := bd2_some h
  refine am_callv_i4 X dX0_perform_34 cw_X0_34 (ct_X0_run hG N 20 _ _ _ _ _ _ hc) (Nat.le_of_ble_eq_true rfl) rfl rfl rfl rfl (Nat.le_of_ble_eq_true rfl) ?_
  obtain rfl := Option.some.inj h
  exact am_iret X h0 dX0_perform_37 rfl ⟨rfl, rfl⟩
set_option maxRecDepth 100000 in
set_option maxHeartbeats 4000000 in
theorem ct_X6_act {G : Cx} (hG : am_G G) (N : Nat) (x1 : Int32) (x2 : Int32) (x3 : Int32) (σ : Sg) (r : Int32 × Sg) (h : f_X6_act N x1 x2 x3 σ = some r) : am_Ct G 44 yX6_act mX6_act [.ref 0, .int x1, .int x2, .int x3] σ (am_qi r.1 r.2) := by
  refine am_enter hG rfl rfl (Nat.le_of_ble_eq_true rfl) ?_
  intro K h0 X
  unfold f_X6_act at h
  refine am_jump (pc' := 0) (ls' := [some (.ref 0), some (.int x1), some (.int x2), some (.int x3)]) ?_ rfl ⟨rfl, rfl, rfl, rfl, trivial⟩
  refine am_aload_n X dX6_act_0 rfl rfl ?_
  refine am_getf (v := .ref 9) X dX6_act_1 fl_X6_49 rfl rfl (by decide) ?_
  obtain ⟨σ4, hc, h⟩ := bd_some h
  refine am_callv_v0 X dX6_act_4 cw_X6_208 (ct_X0_forget hG N _ _ hc) (Nat.le_of_ble_eq_true rfl) rfl rfl rfl rfl (Nat.le_of_ble_eq_true rfl) ?_
  refine am_aload_n X dX6_act_7 rfl rfl ?_
  refine am_getf (v := .ref 1) X dX6_act_8 fl_X6_12 rfl rfl (by decide) ?_
  refine am_iload_n X dX6_act_11 rfl rfl ?_
  obtain ⟨v12, σ12, hc, h⟩ := bd2_some h
  refine am_callv_i1 X dX6_act_12 cw_X6_97 (ct_X4_has hG N _ _ _ hc) (Nat.le_of_ble_eq_true rfl) rfl rfl rfl rfl (Nat.le_of_ble_eq_true rfl) ?_
  refine am_if_eq (tgt := 27) X dX6_act_15 (by decide) (fun c => ?_) (fun c => ?_)
  · have h := if_t h c
    refine am_iconst (v := (0 : Int32)) X dX6_act_27 (by decide) ?_
    obtain rfl := Option.some.inj h
    exact am_iret X h0 dX6_act_28 rfl ⟨rfl, rfl⟩
  · have h := if_f h c
    refine am_iload_n X dX6_act_18 rfl rfl ?_
    refine am_if_lt (tgt := 27) X dX6_act_19 (by decide) (fun c => ?_) (fun c => ?_)
    · have h := if_t h c
      refine am_iconst (v := (0 : Int32)) X dX6_act_27 (by decide) ?_
      obtain rfl := Option.some.inj h
      exact am_iret X h0 dX6_act_28 rfl ⟨rfl, rfl⟩
    · have h := if_f h c
      refine am_iload_n X dX6_act_22 rfl rfl ?_
      refine am_iconst (v := (3 : Int32)) X dX6_act_23 (by decide) ?_
      refine am_icmp_lt (tgt := 29) X dX6_act_24 (by decide) (fun c => ?_) (fun c => ?_)
      · have h := if_t h c
        refine am_aload_n X dX6_act_29 rfl rfl ?_
        refine am_getf (v := .ref 9) X dX6_act_30 fl_X6_49 rfl rfl (by decide) ?_
        refine am_aload_n X dX6_act_33 rfl rfl ?_
        refine am_getf (v := .ref 1) X dX6_act_34 fl_X6_12 rfl rfl (by decide) ?_
        refine am_iload_n X dX6_act_37 rfl rfl ?_
        refine am_iload_n X dX6_act_38 rfl rfl ?_
        refine am_iload_n X dX6_act_39 rfl rfl ?_
        obtain ⟨v40, σ40, hc, h⟩ := bd2_some h
        refine am_callv_i4 X dX6_act_40 cw_X6_211 (ct_X0_perform hG N _ _ _ _ _ hc) (Nat.le_of_ble_eq_true rfl) rfl rfl rfl rfl (Nat.le_of_ble_eq_true rfl) ?_
        obtain rfl := Option.some.inj h
        exact am_iret X h0 dX6_act_43 rfl ⟨rfl, rfl⟩
      · have h := if_f h c
        refine am_iconst (v := (0 : Int32)) X dX6_act_27 (by decide) ?_
        obtain rfl := Option.some.inj h
        exact am_iret X h0 dX6_act_28 rfl ⟨rfl, rfl⟩
set_option maxRecDepth 100000 in
set_option maxHeartbeats 4000000 in
theorem t_X6_isUnder_4b {G : Cx} (hG : am_G G) (N : Nat) (k4 : Int32 → Int32 → Int32 → Sg → Option (Int32 × Sg)) (hk4 : ∀ (x1 : Int32) (x2 : Int32) (x3 : Int32) (σ : Sg) (r : Int32 × Sg), k4 x1 x2 x3 σ = some r → am_Wp G mX6_isUnder 0 (am_qi r.1 r.2) 4 [none, some (.int x1), some (.int x2), some (.int x3)] [] σ) (x1 : Int32) (x2 : Int32) (x3 : Int32) (σ : Sg) (r : Int32 × Sg) (h : b_X6_isUnder_4b N k4 x1 x2 x3 σ = some r) : am_Wp G mX6_isUnder 0 (am_qi r.1 r.2) 4 [none, some (.int x1), some (.int x2), some (.int x3)] [] σ := by
  intro K h0 X
  unfold b_X6_isUnder_4b at h
  refine am_iload_n X dX6_isUnder_4 rfl rfl ?_
  refine am_bipush (v := (7 : Int32)) X dX6_isUnder_5 (by decide) ?_
  refine am_icmp_ge (tgt := 39) X dX6_isUnder_7 (by decide) (fun c => ?_) (fun c => ?_)
  · have h := if_t h c
    refine am_iconst (v := (0 : Int32)) X dX6_isUnder_39 (by decide) ?_
    obtain rfl := Option.some.inj h
    exact am_zret X h0 dX6_isUnder_40 rfl (by decide) ⟨rfl, rfl⟩
  · have h := if_f h c
    refine am_iload_n X dX6_isUnder_10 rfl rfl ?_
    refine am_if_lt (tgt := 39) X dX6_isUnder_11 (by decide) (fun c => ?_) (fun c => ?_)
    · have h := if_t h c
      refine am_iconst (v := (0 : Int32)) X dX6_isUnder_39 (by decide) ?_
      obtain rfl := Option.some.inj h
      exact am_zret X h0 dX6_isUnder_40 rfl (by decide) ⟨rfl, rfl⟩
    · have h := if_f h c
      refine am_iload_n X dX6_isUnder_14 rfl rfl ?_
      refine am_bipush (v := (7 : Int32)) X dX6_isUnder_15 (by decide) ?_
      refine am_icmp_ge (tgt := 39) X dX6_isUnder_17 (by decide) (fun c => ?_) (fun c => ?_)
      · have h := if_t h c
        refine am_iconst (v := (0 : Int32)) X dX6_isUnder_39 (by decide) ?_
        obtain rfl := Option.some.inj h
        exact am_zret X h0 dX6_isUnder_40 rfl (by decide) ⟨rfl, rfl⟩
      · have h := if_f h c
        refine am_iload_n X dX6_isUnder_20 rfl rfl ?_
        refine am_iload_n X dX6_isUnder_21 rfl rfl ?_
        refine am_icmp_ne (tgt := 27) X dX6_isUnder_22 (by decide) (fun c => ?_) (fun c => ?_)
        · have h := if_f h c
          refine am_gets_above X dX6_isUnder_27 (wm_r18 _ (List.mem_of_getElem? (i := 22) rfl)) ?_
          refine am_iload_n X dX6_isUnder_30 rfl rfl ?_
          obtain ⟨g, h⟩ := gd_some h
          refine am_ald_above X dX6_isUnder_31 g ?_
          refine am_topi h (fun x2_32 h => ?_)
          refine am_istore_n (ls' := [none, some (.int x1), some (.int x2_32), some (.int x3)]) X dX6_isUnder_32 rfl (by decide)  rfl rfl ?_
          refine am_iinc (ls' := fun x3_33 => [none, some (.int x1), some (.int x2_32), some (.int x3_33)]) X dX6_isUnder_33 rfl h (by decide) (by decide) rfl (fun _ => rfl) (fun x3_33 h => ?_)
          refine am_goto (tgt := 4) X dX6_isUnder_36 (by decide) ?_
          exact am_jump (hk4 _ _ _ _ _ h K h0 X) rfl ⟨rfl, rfl, rfl, trivial⟩
        · have h := if_t h c
          refine am_iconst (v := (1 : Int32)) X dX6_isUnder_25 (by decide) ?_
          obtain rfl := Option.some.inj h
          exact am_zret X h0 dX6_isUnder_26 rfl (by decide) ⟨rfl, rfl⟩
set_option maxRecDepth 100000 in
set_option maxHeartbeats 4000000 in
theorem t_X6_isUnder_4 {G : Cx} (hG : am_G G) (N : Nat) : ∀ (n : Nat) (x1 : Int32) (x2 : Int32) (x3 : Int32) (σ : Sg) (r : Int32 × Sg), b_X6_isUnder_4 N n x1 x2 x3 σ = some r → am_Wp G mX6_isUnder 0 (am_qi r.1 r.2) 4 [none, some (.int x1), some (.int x2), some (.int x3)] [] σ := by
  intro n
  induction n with
  | zero => intro x1 x2 x3 σ r h; cases h
  | succ n ih => intro x1 x2 x3 σ r h; exact t_X6_isUnder_4b hG N (b_X6_isUnder_4 N n) ih x1 x2 x3 σ r h
set_option maxRecDepth 100000 in
set_option maxHeartbeats 4000000 in
theorem ct_X6_isUnder {G : Cx} (hG : am_G G) (N : Nat) (x0 : Int32) (x1 : Int32) (σ : Sg) (r : Int32 × Sg) (h : f_X6_isUnder N x0 x1 σ = some r) : am_Ct G 1 yX6_isUnder mX6_isUnder [.int x0, .int x1] σ (am_qi r.1 r.2) := by
  refine am_enter hG rfl rfl (Nat.le_of_ble_eq_true rfl) ?_
  intro K h0 X
  unfold f_X6_isUnder at h
  refine am_jump (pc' := 0) (ls' := [some (.int x0), some (.int x1), none, none]) ?_ rfl ⟨rfl, rfl, trivial⟩
  refine am_iload_n X dX6_isUnder_0 rfl rfl ?_
  refine am_istore_n (ls' := [some (.int x0), some (.int x1), some (.int x0), none]) X dX6_isUnder_1 rfl (by decide)  rfl rfl ?_
  refine am_iconst (v := (0 : Int32)) X dX6_isUnder_2 (by decide) ?_
  refine am_istore_n (ls' := [some (.int x0), some (.int x1), some (.int x0), some (.int (0 : Int32))]) X dX6_isUnder_3 rfl (by decide)  rfl rfl ?_
  exact am_jump (t_X6_isUnder_4 hG N N _ _ _ _ _ h K h0 X) rfl ⟨rfl, rfl, rfl, trivial⟩
set_option maxRecDepth 100000 in
set_option maxHeartbeats 4000000 in
theorem ct_X6_as {G : Cx} (hG : am_G G) (N : Nat) (x1 : Int32) (x2 : Int32) (σ : Sg) (r : Int32 × Sg) (h : f_X6_as N x1 x2 σ = some r) : am_Ct G 2 yX6_as mX6_as [.ref 0, .int x1, .int x2] σ (am_qi r.1 r.2) := by
  refine am_enter hG rfl rfl (Nat.le_of_ble_eq_true rfl) ?_
  intro K h0 X
  unfold f_X6_as at h
  refine am_jump (pc' := 0) (ls' := [some (.ref 0), some (.int x1), some (.int x2)]) ?_ rfl ⟨rfl, rfl, rfl, trivial⟩
  refine am_aload_n X dX6_as_0 rfl rfl ?_
  refine am_getf (v := .ref 1) X dX6_as_1 fl_X6_12 rfl rfl (by decide) ?_
  refine am_iload_n X dX6_as_4 rfl rfl ?_
  obtain ⟨v5, σ5, hc, h⟩ := bd2_some h
  refine am_callv_i1 X dX6_as_5 cw_X6_97 (ct_X4_has hG N _ _ _ hc) (Nat.le_of_ble_eq_true rfl) rfl rfl rfl rfl (Nat.le_of_ble_eq_true rfl) ?_
  refine am_if_eq (tgt := 21) X dX6_as_8 (by decide) (fun c => ?_) (fun c => ?_)
  · have h := if_t h c
    refine am_iconst (v := (-1 : Int32)) X dX6_as_21 (by decide) ?_
    obtain rfl := Option.some.inj h
    exact am_iret X h0 dX6_as_22 rfl ⟨rfl, rfl⟩
  · have h := if_f h c
    refine am_iload_n X dX6_as_11 rfl rfl ?_
    refine am_if_lt (tgt := 21) X dX6_as_12 (by decide) (fun c => ?_) (fun c => ?_)
    · have h := if_t h c
      refine am_iconst (v := (-1 : Int32)) X dX6_as_21 (by decide) ?_
      obtain rfl := Option.some.inj h
      exact am_iret X h0 dX6_as_22 rfl ⟨rfl, rfl⟩
    · have h := if_f h c
      refine am_iload_n X dX6_as_15 rfl rfl ?_
      refine am_bipush (v := (7 : Int32)) X dX6_as_16 (by decide) ?_
      refine am_icmp_lt (tgt := 23) X dX6_as_18 (by decide) (fun c => ?_) (fun c => ?_)
      · have h := if_t h c
        refine am_aload_n X dX6_as_23 rfl rfl ?_
        refine am_getf (v := .ref 1) X dX6_as_24 fl_X6_12 rfl rfl (by decide) ?_
        refine am_getf (v := .ref 10) X dX6_as_27 fl_X6_102 rfl rfl (by decide) ?_
        refine am_iload_n X dX6_as_30 rfl rfl ?_
        obtain ⟨g, h⟩ := gd_some h
        refine am_iald X dX6_as_31 rfl g ?_
        refine am_iload_n X dX6_as_32 rfl rfl ?_
        obtain ⟨v33, σ33, hc, h⟩ := bd2_some h
        refine am_calls_i2 X dX6_as_33 cw_X6_221 (ct_X6_isUnder hG N _ _ _ _ hc) (Nat.le_of_ble_eq_true rfl) rfl (Nat.le_of_ble_eq_true rfl) ?_
        refine am_if_eq (tgt := 51) X dX6_as_36 (by decide) (fun c => ?_) (fun c => ?_)
        · have h := if_t h c
          refine am_bipush (v := (-6 : Int32)) X dX6_as_51 (by decide) ?_
          obtain rfl := Option.some.inj h
          exact am_iret X h0 dX6_as_53 rfl ⟨rfl, rfl⟩
        · have h := if_f h c
          refine am_aload_n X dX6_as_39 rfl rfl ?_
          refine am_getf (v := .ref 1) X dX6_as_40 fl_X6_12 rfl rfl (by decide) ?_
          refine am_getf (v := .ref 11) X dX6_as_43 fl_X6_105 rfl rfl (by decide) ?_
          refine am_iload_n X dX6_as_46 rfl rfl ?_
          obtain ⟨g, h⟩ := gd_some h
          refine am_iald X dX6_as_47 rfl g ?_
          refine am_goto (tgt := 53) X dX6_as_48 (by decide) ?_
          obtain rfl := Option.some.inj h
          exact am_iret X h0 dX6_as_53 rfl ⟨rfl, rfl⟩
      · have h := if_f h c
        refine am_iconst (v := (-1 : Int32)) X dX6_as_21 (by decide) ?_
        obtain rfl := Option.some.inj h
        exact am_iret X h0 dX6_as_22 rfl ⟨rfl, rfl⟩
set_option maxRecDepth 100000 in
set_option maxHeartbeats 4000000 in
theorem t_X4_isShut_37 {G : Cx} (hG : am_G G) (N : Nat) (σ : Sg) (r : Int32 × Sg) (h : b_X4_isShut_37 N σ = some r) : am_Wp G mX4_isShut 0 (am_qi r.1 r.2) 37 [none, none, none] [] σ := by
  intro K h0 X
  unfold b_X4_isShut_37 at h
  refine am_iconst (v := (0 : Int32)) X dX4_isShut_37 (by decide) ?_
  obtain rfl := Option.some.inj h
  exact am_zret X h0 dX4_isShut_38 rfl (by decide) ⟨rfl, rfl⟩
set_option maxRecDepth 100000 in
set_option maxHeartbeats 4000000 in
theorem ct_X4_isShut {G : Cx} (hG : am_G G) (N : Nat) (x1 : Int32) (σ : Sg) (r : Int32 × Sg) (h : f_X4_isShut N x1 σ = some r) : am_Ct G 1 yX4_isShut mX4_isShut [.ref 1, .int x1] σ (am_qi r.1 r.2) := by
  refine am_enter hG rfl rfl (Nat.le_of_ble_eq_true rfl) ?_
  intro K h0 X
  unfold f_X4_isShut at h
  refine am_jump (pc' := 0) (ls' := [some (.ref 1), some (.int x1), none]) ?_ rfl ⟨rfl, rfl, trivial⟩
  refine am_aload_n X dX4_isShut_0 rfl rfl ?_
  refine am_getf (v := .ref 11) X dX4_isShut_1 fl_X4_15 rfl rfl (by decide) ?_
  refine am_iload_n X dX4_isShut_4 rfl rfl ?_
  obtain ⟨g, h⟩ := gd_some h
  refine am_iald X dX4_isShut_5 rfl g ?_
  refine am_iconst (v := (2 : Int32)) X dX4_isShut_6 (by decide) ?_
  refine am_iadd X dX4_isShut_7 ?_
  refine am_topi h (fun x2_8 h => ?_)
  refine am_istore_n (ls' := [some (.ref 1), some (.int x1), some (.int x2_8)]) X dX4_isShut_8 rfl (by decide)  rfl rfl ?_
  refine am_aload_n X dX4_isShut_9 rfl rfl ?_
  refine am_getf (v := .ref 10) X dX4_isShut_10 fl_X4_9 rfl rfl (by decide) ?_
  refine am_iload_n X dX4_isShut_13 rfl rfl ?_
  obtain ⟨g, h⟩ := gd_some h
  refine am_iald X dX4_isShut_14 rfl g ?_
  refine am_bipush (v := (6 : Int32)) X dX4_isShut_15 (by decide) ?_
  refine am_icmp_ne (tgt := 37) X dX4_isShut_17 (by decide) (fun c => ?_) (fun c => ?_)
  · have h := if_f h c
    exact am_jump (t_X4_isShut_37 hG N _ _ h K h0 X) rfl trivial
  · have h := if_t h c
    refine am_iload_n X dX4_isShut_20 rfl rfl ?_
    refine am_if_le (tgt := 37) X dX4_isShut_21 (by decide) (fun c => ?_) (fun c => ?_)
    · have h := if_t h c
      exact am_jump (t_X4_isShut_37 hG N _ _ h K h0 X) rfl trivial
    · have h := if_f h c
      refine am_aload_n X dX4_isShut_24 rfl rfl ?_
      refine am_getf (v := .int (rg σ 1 6)) X dX4_isShut_25 fl_X4_53 rfl rfl (by decide) ?_
      refine am_iload_n X dX4_isShut_28 rfl rfl ?_
      obtain ⟨g, h⟩ := gd_some h
      refine am_irem X dX4_isShut_29 (of_decide_eq_true g) ?_
      refine am_if_ne (tgt := 37) X dX4_isShut_30 (by decide) (fun c => ?_) (fun c => ?_)
      · have h := if_f h c
        exact am_jump (t_X4_isShut_37 hG N _ _ h K h0 X) rfl trivial
      · have h := if_t h c
        refine am_iconst (v := (1 : Int32)) X dX4_isShut_33 (by decide) ?_
        refine am_goto (tgt := 38) X dX4_isShut_34 (by decide) ?_
        obtain rfl := Option.some.inj h
        exact am_zret X h0 dX4_isShut_38 rfl (by decide) ⟨rfl, rfl⟩
set_option maxRecDepth 100000 in
set_option maxHeartbeats 4000000 in
theorem t_X4_isOpen_35 {G : Cx} (hG : am_G G) (N : Nat) (x2 : Int32) (σ : Sg) (r : Int32 × Sg) (h : b_X4_isOpen_35 N x2 σ = some r) : am_Wp G mX4_isOpen 1 (am_qi r.1 r.2) 35 [some (.ref 1), none, some (.int x2)] [] σ := by
  intro K h0 X
  unfold b_X4_isOpen_35 at h
  refine am_aload_n X dX4_isOpen_35 rfl rfl ?_
  refine am_iload_n X dX4_isOpen_36 rfl rfl ?_
  obtain ⟨v37, σ37, hc, h⟩ := bd2_some h
  refine am_callv_i1 X dX4_isOpen_37 cw_X4_96 (ct_X4_isShut hG N _ _ _ hc) (Nat.le_of_ble_eq_true rfl) rfl rfl rfl rfl (Nat.le_of_ble_eq_true rfl) ?_
  refine am_if_ne (tgt := 47) X dX4_isOpen_40 (by decide) (fun c => ?_) (fun c => ?_)
  · have h := if_f h c
    refine am_iconst (v := (0 : Int32)) X dX4_isOpen_47 (by decide) ?_
    obtain rfl := Option.some.inj h
    exact am_zret X h0 dX4_isOpen_48 rfl (by decide) ⟨rfl, rfl⟩
  · have h := if_t h c
    refine am_iconst (v := (1 : Int32)) X dX4_isOpen_43 (by decide) ?_
    refine am_goto (tgt := 48) X dX4_isOpen_44 (by decide) ?_
    obtain rfl := Option.some.inj h
    exact am_zret X h0 dX4_isOpen_48 rfl (by decide) ⟨rfl, rfl⟩
set_option maxRecDepth 100000 in
set_option maxHeartbeats 4000000 in
theorem ct_X4_isOpen {G : Cx} (hG : am_G G) (N : Nat) (x1 : Int32) (x2 : Int32) (σ : Sg) (r : Int32 × Sg) (h : f_X4_isOpen N x1 x2 σ = some r) : am_Ct G 2 yX4_isOpen mX4_isOpen [.ref 1, .int x1, .int x2] σ (am_qi r.1 r.2) := by
  refine am_enter hG rfl rfl (Nat.le_of_ble_eq_true rfl) ?_
  intro K h0 X
  unfold f_X4_isOpen at h
  refine am_jump (pc' := 0) (ls' := [some (.ref 1), some (.int x1), some (.int x2)]) ?_ rfl ⟨rfl, rfl, rfl, trivial⟩
  refine am_aload_n X dX4_isOpen_0 rfl rfl ?_
  refine am_getf (v := .ref 14) X dX4_isOpen_1 fl_X4_24 rfl rfl (by decide) ?_
  refine am_iload_n X dX4_isOpen_4 rfl rfl ?_
  obtain ⟨g, h⟩ := gd_some h
  refine am_iald X dX4_isOpen_5 rfl g ?_
  refine am_iload_n X dX4_isOpen_6 rfl rfl ?_
  refine am_ishr X dX4_isOpen_7 ?_
  refine am_iconst (v := (1 : Int32)) X dX4_isOpen_8 (by decide) ?_
  refine am_iand X dX4_isOpen_9 ?_
  refine am_if_ne (tgt := 15) X dX4_isOpen_10 (by decide) (fun c => ?_) (fun c => ?_)
  · have h := if_f h c
    refine am_iload_n X dX4_isOpen_15 rfl rfl ?_
    refine am_iload_n X dX4_isOpen_16 rfl rfl ?_
    refine am_icmp_ge (tgt := 35) X dX4_isOpen_17 (by decide) (fun c => ?_) (fun c => ?_)
    · have h := if_t h c
      exact am_jump (t_X4_isOpen_35 hG N _ _ _ h K h0 X) rfl ⟨rfl, rfl, trivial⟩
    · have h := if_f h c
      refine am_aload_n X dX4_isOpen_20 rfl rfl ?_
      refine am_getf (v := .ref 10) X dX4_isOpen_21 fl_X4_9 rfl rfl (by decide) ?_
      refine am_iload_n X dX4_isOpen_24 rfl rfl ?_
      obtain ⟨g, h⟩ := gd_some h
      refine am_iald X dX4_isOpen_25 rfl g ?_
      refine am_iconst (v := (3 : Int32)) X dX4_isOpen_26 (by decide) ?_
      obtain ⟨v27, σ27, hc, h⟩ := bd2_some h
      refine am_callsN_i2 X dX4_isOpen_27 rfl rfl rfl (ct_X6_isUnder hG N _ _ _ _ hc) (Nat.le_of_ble_eq_true rfl) rfl (Nat.le_of_ble_eq_true rfl) ?_
      refine am_if_eq (tgt := 35) X dX4_isOpen_30 (by decide) (fun c => ?_) (fun c => ?_)
      · have h := if_t h c
        exact am_jump (t_X4_isOpen_35 hG N _ _ _ h K h0 X) rfl ⟨rfl, rfl, trivial⟩
      · have h := if_f h c
        refine am_iconst (v := (0 : Int32)) X dX4_isOpen_33 (by decide) ?_
        obtain rfl := Option.some.inj h
        exact am_zret X h0 dX4_isOpen_34 rfl (by decide) ⟨rfl, rfl⟩
  · have h := if_t h c
    refine am_iconst (v := (0 : Int32)) X dX4_isOpen_13 (by decide) ?_
    obtain rfl := Option.some.inj h
    exact am_zret X h0 dX4_isOpen_14 rfl (by decide) ⟨rfl, rfl⟩
set_option maxRecDepth 100000 in
set_option maxHeartbeats 4000000 in
theorem t_X4_openFrom_27 {G : Cx} (hG : am_G G) (N : Nat) (k4 : Int32 → Int32 → Int32 → Sg → Option (Int32 × Sg)) (hk4 : ∀ (x1 : Int32) (x2 : Int32) (x3 : Int32) (σ : Sg) (r : Int32 × Sg), k4 x1 x2 x3 σ = some r → am_Wp G mX4_openFrom 2 (am_qi r.1 r.2) 4 [some (.ref 1), some (.int x1), some (.int x2), some (.int x3)] [] σ) (x1 : Int32) (x2 : Int32) (x3 : Int32) (σ : Sg) (r : Int32 × Sg) (h : b_X4_openFrom_27 N k4 x1 x2 x3 σ = some r) : am_Wp G mX4_openFrom 2 (am_qi r.1 r.2) 27 [some (.ref 1), some (.int x1), some (.int x2), some (.int x3)] [] σ := by
  intro K h0 X
  unfold b_X4_openFrom_27 at h
  refine am_iinc (ls' := fun x3_27 => [some (.ref 1), some (.int x1), some (.int x2), some (.int x3_27)]) X dX4_openFrom_27 rfl h (by decide) (by decide) rfl (fun _ => rfl) (fun x3_27 h => ?_)
  refine am_goto (tgt := 4) X dX4_openFrom_30 (by decide) ?_
  exact am_jump (hk4 _ _ _ _ _ h K h0 X) rfl ⟨rfl, rfl, rfl, rfl, trivial⟩
set_option maxRecDepth 100000 in
set_option maxHeartbeats 4000000 in
theorem t_X4_openFrom_4b {G : Cx} (hG : am_G G) (N : Nat) (k4 : Int32 → Int32 → Int32 → Sg → Option (Int32 × Sg)) (hk4 : ∀ (x1 : Int32) (x2 : Int32) (x3 : Int32) (σ : Sg) (r : Int32 × Sg), k4 x1 x2 x3 σ = some r → am_Wp G mX4_openFrom 2 (am_qi r.1 r.2) 4 [some (.ref 1), some (.int x1), some (.int x2), some (.int x3)] [] σ) (x1 : Int32) (x2 : Int32) (x3 : Int32) (σ : Sg) (r : Int32 × Sg) (h : b_X4_openFrom_4b N k4 x1 x2 x3 σ = some r) : am_Wp G mX4_openFrom 2 (am_qi r.1 r.2) 4 [some (.ref 1), some (.int x1), some (.int x2), some (.int x3)] [] σ := by
  intro K h0 X
  unfold b_X4_openFrom_4b at h
  refine am_iload_n X dX4_openFrom_4 rfl rfl ?_
  refine am_aload_n X dX4_openFrom_5 rfl rfl ?_
  refine am_getf (v := .int (rg σ 1 0)) X dX4_openFrom_6 fl_X4_43 rfl rfl (by decide) ?_
  refine am_icmp_ge (tgt := 33) X dX4_openFrom_9 (by decide) (fun c => ?_) (fun c => ?_)
  · have h := if_t h c
    refine am_iload_n X dX4_openFrom_33 rfl rfl ?_
    obtain rfl := Option.some.inj h
    exact am_iret X h0 dX4_openFrom_34 rfl ⟨rfl, rfl⟩
  · have h := if_f h c
    refine am_aload_n X dX4_openFrom_12 rfl rfl ?_
    refine am_iload_n X dX4_openFrom_13 rfl rfl ?_
    refine am_iload_n X dX4_openFrom_14 rfl rfl ?_
    obtain ⟨v15, σ15, hc, h⟩ := bd2_some h
    refine am_callv_i2 X dX4_openFrom_15 cw_X4_99 (ct_X4_isOpen hG N _ _ _ _ hc) (Nat.le_of_ble_eq_true rfl) rfl rfl rfl rfl (Nat.le_of_ble_eq_true rfl) ?_
    refine am_if_eq (tgt := 27) X dX4_openFrom_18 (by decide) (fun c => ?_) (fun c => ?_)
    · have h := if_t h c
      exact am_jump (t_X4_openFrom_27 hG N k4 hk4 _ _ _ _ _ h K h0 X) rfl ⟨rfl, rfl, rfl, rfl, trivial⟩
    · have h := if_f h c
      refine am_iload_n X dX4_openFrom_21 rfl rfl ?_
      refine am_iconst (v := (1 : Int32)) X dX4_openFrom_22 (by decide) ?_
      refine am_iload_n X dX4_openFrom_23 rfl rfl ?_
      refine am_ishl X dX4_openFrom_24 ?_
      refine am_ior X dX4_openFrom_25 ?_
      refine am_topi h (fun x2_26 h => ?_)
      refine am_istore_n (ls' := [some (.ref 1), some (.int x1), some (.int x2_26), some (.int x3)]) X dX4_openFrom_26 rfl (by decide)  rfl rfl ?_
      exact am_jump (t_X4_openFrom_27 hG N k4 hk4 _ _ _ _ _ h K h0 X) rfl ⟨rfl, rfl, rfl, rfl, trivial⟩
set_option maxRecDepth 100000 in
set_option maxHeartbeats 4000000 in
theorem t_X4_openFrom_4 {G : Cx} (hG : am_G G) (N : Nat) : ∀ (n : Nat) (x1 : Int32) (x2 : Int32) (x3 : Int32) (σ : Sg) (r : Int32 × Sg), b_X4_openFrom_4 N n x1 x2 x3 σ = some r → am_Wp G mX4_openFrom 2 (am_qi r.1 r.2) 4 [some (.ref 1), some (.int x1), some (.int x2), some (.int x3)] [] σ := by
  intro n
  induction n with
  | zero => intro x1 x2 x3 σ r h; cases h
  | succ n ih => intro x1 x2 x3 σ r h; exact t_X4_openFrom_4b hG N (b_X4_openFrom_4 N n) ih x1 x2 x3 σ r h
set_option maxRecDepth 100000 in
set_option maxHeartbeats 4000000 in
theorem ct_X4_openFrom {G : Cx} (hG : am_G G) (N : Nat) (x1 : Int32) (σ : Sg) (r : Int32 × Sg) (h : f_X4_openFrom N x1 σ = some r) : am_Ct G 3 yX4_openFrom mX4_openFrom [.ref 1, .int x1] σ (am_qi r.1 r.2) := by
  refine am_enter hG rfl rfl (Nat.le_of_ble_eq_true rfl) ?_
  intro K h0 X
  unfold f_X4_openFrom at h
  refine am_jump (pc' := 0) (ls' := [some (.ref 1), some (.int x1), none, none]) ?_ rfl ⟨rfl, rfl, trivial⟩
  refine am_iconst (v := (0 : Int32)) X dX4_openFrom_0 (by decide) ?_
  refine am_istore_n (ls' := [some (.ref 1), some (.int x1), some (.int (0 : Int32)), none]) X dX4_openFrom_1 rfl (by decide)  rfl rfl ?_
  refine am_iconst (v := (0 : Int32)) X dX4_openFrom_2 (by decide) ?_
  refine am_istore_n (ls' := [some (.ref 1), some (.int x1), some (.int (0 : Int32)), some (.int (0 : Int32))]) X dX4_openFrom_3 rfl (by decide)  rfl rfl ?_
  exact am_jump (t_X4_openFrom_4 hG N N _ _ _ _ _ h K h0 X) rfl ⟨rfl, rfl, rfl, rfl, trivial⟩
set_option maxRecDepth 100000 in
set_option maxHeartbeats 4000000 in
theorem ct_X4_uneven {G : Cx} (hG : am_G G) (N : Nat) (x1 : Int32) (σ : Sg) (r : Int32 × Sg) (h : f_X4_uneven N x1 σ = some r) : am_Ct G 1 yX4_uneven mX4_uneven [.ref 1, .int x1] σ (am_qi r.1 r.2) := by
  refine am_enter hG rfl rfl (Nat.le_of_ble_eq_true rfl) ?_
  intro K h0 X
  unfold f_X4_uneven at h
  refine am_jump (pc' := 0) (ls' := [some (.ref 1), some (.int x1)]) ?_ rfl ⟨rfl, rfl, trivial⟩
  refine am_aload_n X dX4_uneven_0 rfl rfl ?_
  refine am_getf (v := .ref 12) X dX4_uneven_1 fl_X4_18 rfl rfl (by decide) ?_
  refine am_iload_n X dX4_uneven_4 rfl rfl ?_
  obtain ⟨g, h⟩ := gd_some h
  refine am_iald X dX4_uneven_5 rfl g ?_
  refine am_aload_n X dX4_uneven_6 rfl rfl ?_
  refine am_getf (v := .ref 13) X dX4_uneven_7 fl_X4_21 rfl rfl (by decide) ?_
  refine am_iload_n X dX4_uneven_10 rfl rfl ?_
  obtain ⟨g, h⟩ := gd_some h
  refine am_iald X dX4_uneven_11 rfl g ?_
  refine am_isub X dX4_uneven_12 ?_
  obtain rfl := Option.some.inj h
  exact am_iret X h0 dX4_uneven_13 rfl ⟨rfl, rfl⟩
set_option maxRecDepth 100000 in
set_option maxHeartbeats 4000000 in
theorem ct_J6_bitCount_0f7a4 {G : Cx} (hG : am_G G) (N : Nat) (x0 : Int32) (σ : Sg) (r : Int32 × Sg) (h : f_J6_bitCount_0f7a4 N x0 σ = some r) : am_Ct G 1 yJ6_bitCount_0f7a4 mJ6_bitCount_0f7a4 [.int x0] σ (am_qi r.1 r.2) := by
  refine am_enter hG rfl rfl (Nat.le_of_ble_eq_true rfl) ?_
  intro K h0 X
  unfold f_J6_bitCount_0f7a4 at h
  refine am_jump (pc' := 0) (ls' := [some (.int x0)]) ?_ rfl ⟨rfl, trivial⟩
  refine am_iload_n X dJ6_bitCount_0f7a4_0 rfl rfl ?_
  refine am_iload_n X dJ6_bitCount_0f7a4_1 rfl rfl ?_
  refine am_iconst (v := (1 : Int32)) X dJ6_bitCount_0f7a4_2 (by decide) ?_
  refine am_iushr X dJ6_bitCount_0f7a4_3 ?_
  refine am_ldcw (v := (1431655765 : Int32)) X dJ6_bitCount_0f7a4_4 (wm_r18 _ (List.mem_of_getElem? (i := 5) rfl)) ?_
  refine am_iand X dJ6_bitCount_0f7a4_7 ?_
  refine am_isub X dJ6_bitCount_0f7a4_8 ?_
  refine am_topi h (fun x0_9 h => ?_)
  refine am_istore_n (ls' := [some (.int x0_9)]) X dJ6_bitCount_0f7a4_9 rfl (by decide)  rfl rfl ?_
  refine am_iload_n X dJ6_bitCount_0f7a4_10 rfl rfl ?_
  refine am_ldcw (v := (858993459 : Int32)) X dJ6_bitCount_0f7a4_11 (wm_r18 _ (List.mem_of_getElem? (i := 6) rfl)) ?_
  refine am_iand X dJ6_bitCount_0f7a4_14 ?_
  refine am_iload_n X dJ6_bitCount_0f7a4_15 rfl rfl ?_
  refine am_iconst (v := (2 : Int32)) X dJ6_bitCount_0f7a4_16 (by decide) ?_
  refine am_iushr X dJ6_bitCount_0f7a4_17 ?_
  refine am_ldcw (v := (858993459 : Int32)) X dJ6_bitCount_0f7a4_18 (wm_r18 _ (List.mem_of_getElem? (i := 6) rfl)) ?_
  refine am_iand X dJ6_bitCount_0f7a4_21 ?_
  refine am_iadd X dJ6_bitCount_0f7a4_22 ?_
  refine am_topi h (fun x0_23 h => ?_)
  refine am_istore_n (ls' := [some (.int x0_23)]) X dJ6_bitCount_0f7a4_23 rfl (by decide)  rfl rfl ?_
  refine am_iload_n X dJ6_bitCount_0f7a4_24 rfl rfl ?_
  refine am_iload_n X dJ6_bitCount_0f7a4_25 rfl rfl ?_
  refine am_iconst (v := (4 : Int32)) X dJ6_bitCount_0f7a4_26 (by decide) ?_
  refine am_iushr X dJ6_bitCount_0f7a4_27 ?_
  refine am_iadd X dJ6_bitCount_0f7a4_28 ?_
  refine am_ldcw (v := (252645135 : Int32)) X dJ6_bitCount_0f7a4_29 (wm_r18 _ (List.mem_of_getElem? (i := 7) rfl)) ?_
  refine am_iand X dJ6_bitCount_0f7a4_32 ?_
  refine am_topi h (fun x0_33 h => ?_)
  refine am_istore_n (ls' := [some (.int x0_33)]) X dJ6_bitCount_0f7a4_33 rfl (by decide)  rfl rfl ?_
  refine am_iload_n X dJ6_bitCount_0f7a4_34 rfl rfl ?_
  refine am_iload_n X dJ6_bitCount_0f7a4_35 rfl rfl ?_
  refine am_bipush (v := (8 : Int32)) X dJ6_bitCount_0f7a4_36 (by decide) ?_
  refine am_iushr X dJ6_bitCount_0f7a4_38 ?_
  refine am_iadd X dJ6_bitCount_0f7a4_39 ?_
  refine am_topi h (fun x0_40 h => ?_)
  refine am_istore_n (ls' := [some (.int x0_40)]) X dJ6_bitCount_0f7a4_40 rfl (by decide)  rfl rfl ?_
  refine am_iload_n X dJ6_bitCount_0f7a4_41 rfl rfl ?_
  refine am_iload_n X dJ6_bitCount_0f7a4_42 rfl rfl ?_
  refine am_bipush (v := (16 : Int32)) X dJ6_bitCount_0f7a4_43 (by decide) ?_
  refine am_iushr X dJ6_bitCount_0f7a4_45 ?_
  refine am_iadd X dJ6_bitCount_0f7a4_46 ?_
  refine am_topi h (fun x0_47 h => ?_)
  refine am_istore_n (ls' := [some (.int x0_47)]) X dJ6_bitCount_0f7a4_47 rfl (by decide)  rfl rfl ?_
  refine am_iload_n X dJ6_bitCount_0f7a4_48 rfl rfl ?_
  refine am_bipush (v := (63 : Int32)) X dJ6_bitCount_0f7a4_49 (by decide) ?_
  refine am_iand X dJ6_bitCount_0f7a4_51 ?_
  obtain rfl := Option.some.inj h
  exact am_iret X h0 dJ6_bitCount_0f7a4_52 rfl ⟨rfl, rfl⟩
set_option maxRecDepth 100000 in
set_option maxHeartbeats 4000000 in
theorem ct_X5_passes {G : Cx} (hG : am_G G) (N : Nat) (x1 : Int32) (σ : Sg) (r : Int32 × Sg) (h : f_X5_passes N x1 σ = some r) : am_Ct G 1 yX5_passes mX5_passes [.ref 3, .int x1] σ (am_qi r.1 r.2) := by
  refine am_enter hG rfl rfl (Nat.le_of_ble_eq_true rfl) ?_
  intro K h0 X
  unfold f_X5_passes at h
  refine am_jump (pc' := 0) (ls' := [some (.ref 3), some (.int x1), none, none]) ?_ rfl ⟨rfl, rfl, trivial⟩
  refine am_iload_n X dX5_passes_0 rfl rfl ?_
  refine am_sipush (v := (300 : Int32)) X dX5_passes_1 (by decide) ?_
  refine am_idiv X dX5_passes_4 (by decide) ?_
  refine am_topi h (fun x2_5 h => ?_)
  refine am_istore_n (ls' := [some (.ref 3), some (.int x1), some (.int x2_5), none]) X dX5_passes_5 rfl (by decide)  rfl rfl ?_
  refine am_iload_n X dX5_passes_6 rfl rfl ?_
  refine am_if_lt (tgt := 15) X dX5_passes_7 (by decide) (fun c => ?_) (fun c => ?_)
  · have h := if_t h c
    refine am_iconst (v := (0 : Int32)) X dX5_passes_15 (by decide) ?_
    obtain rfl := Option.some.inj h
    exact am_zret X h0 dX5_passes_16 rfl (by decide) ⟨rfl, rfl⟩
  · have h := if_f h c
    refine am_iload_n X dX5_passes_10 rfl rfl ?_
    refine am_iconst (v := (5 : Int32)) X dX5_passes_11 (by decide) ?_
    refine am_icmp_lt (tgt := 17) X dX5_passes_12 (by decide) (fun c => ?_) (fun c => ?_)
    · have h := if_t h c
      refine am_iload_n X dX5_passes_17 rfl rfl ?_
      refine am_bipush (v := (100 : Int32)) X dX5_passes_18 (by decide) ?_
      refine am_irem X dX5_passes_20 (by decide) ?_
      refine am_topi h (fun x3_21 h => ?_)
      refine am_istore_n (ls' := [some (.ref 3), some (.int x1), some (.int x2_5), some (.int x3_21)]) X dX5_passes_21 rfl (by decide)  rfl rfl ?_
      refine am_iload_n X dX5_passes_22 rfl rfl ?_
      refine am_bipush (v := (100 : Int32)) X dX5_passes_23 (by decide) ?_
      refine am_idiv X dX5_passes_25 (by decide) ?_
      refine am_iconst (v := (3 : Int32)) X dX5_passes_26 (by decide) ?_
      refine am_irem X dX5_passes_27 (by decide) ?_
      by_cases c0 : ((x1 / (100 : Int32)) - (x1 / (100 : Int32)) / (3 : Int32) * (3 : Int32)) = (0 : Int32)
      · have h := if_t h c0
        refine am_lkIn (off := 28) (tgt := 56) X dX5_passes_28 c0 (by decide) (by decide) (by decide) ?_
        refine am_aload_n X dX5_passes_56 rfl rfl ?_
        refine am_getf (v := .ref 30) X dX5_passes_57 fl_X5_24 rfl rfl (by decide) ?_
        refine am_iload_n X dX5_passes_60 rfl rfl ?_
        obtain ⟨g, h⟩ := gd_some h
        refine am_iald X dX5_passes_61 rfl g ?_
        refine am_iload_n X dX5_passes_62 rfl rfl ?_
        refine am_icmp_ge (tgt := 70) X dX5_passes_63 (by decide) (fun c => ?_) (fun c => ?_)
        · have h := if_t h c
          refine am_iconst (v := (0 : Int32)) X dX5_passes_70 (by decide) ?_
          obtain rfl := Option.some.inj h
          exact am_zret X h0 dX5_passes_71 rfl (by decide) ⟨rfl, rfl⟩
        · have h := if_f h c
          refine am_iconst (v := (1 : Int32)) X dX5_passes_66 (by decide) ?_
          refine am_goto (tgt := 71) X dX5_passes_67 (by decide) ?_
          obtain rfl := Option.some.inj h
          exact am_zret X h0 dX5_passes_71 rfl (by decide) ⟨rfl, rfl⟩
      have h := if_f h c0
      by_cases c1 : ((x1 / (100 : Int32)) - (x1 / (100 : Int32)) / (3 : Int32) * (3 : Int32)) = (1 : Int32)
      · have h := if_t h c1
        refine am_lkIn (off := 44) (tgt := 72) X dX5_passes_28 c1 (by decide) (by decide) (by decide) ?_
        refine am_aload_n X dX5_passes_72 rfl rfl ?_
        refine am_getf (v := .ref 30) X dX5_passes_73 fl_X5_24 rfl rfl (by decide) ?_
        refine am_iload_n X dX5_passes_76 rfl rfl ?_
        obtain ⟨g, h⟩ := gd_some h
        refine am_iald X dX5_passes_77 rfl g ?_
        refine am_iload_n X dX5_passes_78 rfl rfl ?_
        refine am_icmp_ne (tgt := 86) X dX5_passes_79 (by decide) (fun c => ?_) (fun c => ?_)
        · have h := if_f h c
          refine am_iconst (v := (0 : Int32)) X dX5_passes_86 (by decide) ?_
          obtain rfl := Option.some.inj h
          exact am_zret X h0 dX5_passes_87 rfl (by decide) ⟨rfl, rfl⟩
        · have h := if_t h c
          refine am_iconst (v := (1 : Int32)) X dX5_passes_82 (by decide) ?_
          refine am_goto (tgt := 87) X dX5_passes_83 (by decide) ?_
          obtain rfl := Option.some.inj h
          exact am_zret X h0 dX5_passes_87 rfl (by decide) ⟨rfl, rfl⟩
      have h := if_f h c1
      refine am_lkOut (tgt := 88) (vs := [(0 : Int32), (1 : Int32)]) X dX5_passes_28 (List.forall_mem_cons.mpr ⟨c0, (List.forall_mem_cons.mpr ⟨c1, (fun _ h => absurd h List.not_mem_nil)⟩)⟩) (by decide) (by decide) (by decide) ?_
      refine am_aload_n X dX5_passes_88 rfl rfl ?_
      refine am_getf (v := .ref 30) X dX5_passes_89 fl_X5_24 rfl rfl (by decide) ?_
      refine am_iload_n X dX5_passes_92 rfl rfl ?_
      obtain ⟨g, h⟩ := gd_some h
      refine am_iald X dX5_passes_93 rfl g ?_
      refine am_iload_n X dX5_passes_94 rfl rfl ?_
      refine am_icmp_le (tgt := 102) X dX5_passes_95 (by decide) (fun c => ?_) (fun c => ?_)
      · have h := if_t h c
        refine am_iconst (v := (0 : Int32)) X dX5_passes_102 (by decide) ?_
        obtain rfl := Option.some.inj h
        exact am_zret X h0 dX5_passes_103 rfl (by decide) ⟨rfl, rfl⟩
      · have h := if_f h c
        refine am_iconst (v := (1 : Int32)) X dX5_passes_98 (by decide) ?_
        refine am_goto (tgt := 103) X dX5_passes_99 (by decide) ?_
        obtain rfl := Option.some.inj h
        exact am_zret X h0 dX5_passes_103 rfl (by decide) ⟨rfl, rfl⟩
    · have h := if_f h c
      refine am_iconst (v := (0 : Int32)) X dX5_passes_15 (by decide) ?_
      obtain rfl := Option.some.inj h
      exact am_zret X h0 dX5_passes_16 rfl (by decide) ⟨rfl, rfl⟩
set_option maxRecDepth 100000 in
set_option maxHeartbeats 4000000 in
theorem t_X5_holds_102 {G : Cx} (hG : am_G G) (N : Nat) (k5 : Int32 → Int32 → Int32 → Sg → Option (Int32 × Sg)) (hk5 : ∀ (x2 : Int32) (x3 : Int32) (x4 : Int32) (σ : Sg) (r : Int32 × Sg), k5 x2 x3 x4 σ = some r → am_Wp G mX5_holds 1 (am_qi r.1 r.2) 5 [some (.ref 3), none, some (.int x2), some (.int x3), some (.int x4), none] [] σ) (x2 : Int32) (x3 : Int32) (x4 : Int32) (σ : Sg) (r : Int32 × Sg) (h : b_X5_holds_102 N k5 x2 x3 x4 σ = some r) : am_Wp G mX5_holds 1 (am_qi r.1 r.2) 102 [some (.ref 3), none, some (.int x2), some (.int x3), some (.int x4), none] [] σ := by
  intro K h0 X
  unfold b_X5_holds_102 at h
  refine am_iinc (ls' := fun x4_102 => [some (.ref 3), none, some (.int x2), some (.int x3), some (.int x4_102), none]) X dX5_holds_102 rfl h (by decide) (by decide) rfl (fun _ => rfl) (fun x4_102 h => ?_)
  refine am_goto (tgt := 5) X dX5_holds_105 (by decide) ?_
  exact am_jump (hk5 _ _ _ _ _ h K h0 X) rfl ⟨rfl, rfl, rfl, rfl, trivial⟩
set_option maxRecDepth 100000 in
set_option maxHeartbeats 4000000 in
theorem t_X5_holds_100 {G : Cx} (hG : am_G G) (N : Nat) (k5 : Int32 → Int32 → Int32 → Sg → Option (Int32 × Sg)) (hk5 : ∀ (x2 : Int32) (x3 : Int32) (x4 : Int32) (σ : Sg) (r : Int32 × Sg), k5 x2 x3 x4 σ = some r → am_Wp G mX5_holds 1 (am_qi r.1 r.2) 5 [some (.ref 3), none, some (.int x2), some (.int x3), some (.int x4), none] [] σ) (x2 : Int32) (x4 : Int32) (s0 : Int32) (s1 : Int32) (σ : Sg) (r : Int32 × Sg) (h : b_X5_holds_100 N k5 x2 x4 s0 s1 σ = some r) : am_Wp G mX5_holds 1 (am_qi r.1 r.2) 100 [some (.ref 3), none, some (.int x2), none, some (.int x4), none] [.int s1, .int s0] σ := by
  intro K h0 X
  unfold b_X5_holds_100 at h
  refine am_ior X dX5_holds_100 ?_
  refine am_topi h (fun x3_101 h => ?_)
  refine am_istore_n (ls' := [some (.ref 3), none, some (.int x2), some (.int x3_101), some (.int x4), none]) X dX5_holds_101 rfl (by decide)  rfl rfl ?_
  exact am_jump (t_X5_holds_102 hG N k5 hk5 _ _ _ _ _ h K h0 X) rfl ⟨rfl, rfl, rfl, rfl, trivial⟩
set_option maxRecDepth 100000 in
set_option maxHeartbeats 4000000 in
theorem t_X5_holds_5b {G : Cx} (hG : am_G G) (N : Nat) (k5 : Int32 → Int32 → Int32 → Sg → Option (Int32 × Sg)) (hk5 : ∀ (x2 : Int32) (x3 : Int32) (x4 : Int32) (σ : Sg) (r : Int32 × Sg), k5 x2 x3 x4 σ = some r → am_Wp G mX5_holds 1 (am_qi r.1 r.2) 5 [some (.ref 3), none, some (.int x2), some (.int x3), some (.int x4), none] [] σ) (x2 : Int32) (x3 : Int32) (x4 : Int32) (σ : Sg) (r : Int32 × Sg) (h : b_X5_holds_5b N k5 x2 x3 x4 σ = some r) : am_Wp G mX5_holds 1 (am_qi r.1 r.2) 5 [some (.ref 3), none, some (.int x2), some (.int x3), some (.int x4), none] [] σ := by
  intro K h0 X
  unfold b_X5_holds_5b at h
  refine am_iload X dX5_holds_5 rfl ?_
  refine am_iload_n X dX5_holds_7 rfl rfl ?_
  refine am_icmp_ge (tgt := 108) X dX5_holds_8 (by decide) (fun c => ?_) (fun c => ?_)
  · have h := if_t h c
    refine am_iload_n X dX5_holds_108 rfl rfl ?_
    refine am_iconst (v := (1 : Int32)) X dX5_holds_109 (by decide) ?_
    refine am_iand X dX5_holds_110 ?_
    refine am_iconst (v := (1 : Int32)) X dX5_holds_111 (by decide) ?_
    refine am_icmp_ne (tgt := 119) X dX5_holds_112 (by decide) (fun c => ?_) (fun c => ?_)
    · have h := if_f h c
      refine am_iconst (v := (0 : Int32)) X dX5_holds_119 (by decide) ?_
      obtain rfl := Option.some.inj h
      exact am_zret X h0 dX5_holds_120 rfl (by decide) ⟨rfl, rfl⟩
    · have h := if_t h c
      refine am_iconst (v := (1 : Int32)) X dX5_holds_115 (by decide) ?_
      refine am_goto (tgt := 120) X dX5_holds_116 (by decide) ?_
      obtain rfl := Option.some.inj h
      exact am_zret X h0 dX5_holds_120 rfl (by decide) ⟨rfl, rfl⟩
  · have h := if_f h c
    refine am_iload_n X dX5_holds_11 rfl rfl ?_
    refine am_iconst (v := (1 : Int32)) X dX5_holds_12 (by decide) ?_
    refine am_iand X dX5_holds_13 ?_
    refine am_topi h (fun x5_14 h => ?_)
    refine am_istore (ls' := [some (.ref 3), none, some (.int x2), some (.int x3), some (.int x4), some (.int x5_14)]) X dX5_holds_14 (by decide)  rfl rfl ?_
    refine am_aload_n X dX5_holds_16 rfl rfl ?_
    refine am_getf (v := .ref 29) X dX5_holds_17 fl_X5_21 rfl rfl (by decide) ?_
    refine am_iload X dX5_holds_20 rfl ?_
    obtain ⟨g, h⟩ := gd_some h
    refine am_iald X dX5_holds_22 rfl g ?_
    by_cases cm3 : (ar σ 29 x4.toNatClampNeg) = (-3 : Int32)
    · have h := if_t h cm3
      refine am_tabIn (tgt := 68) X dX5_holds_23 cm3 (by decide) (by decide) rfl (by decide) ?_
      refine am_iload_n X dX5_holds_68 rfl rfl ?_
      refine am_iconst (v := (1 : Int32)) X dX5_holds_69 (by decide) ?_
      refine am_ishr X dX5_holds_70 ?_
      refine am_iload X dX5_holds_71 rfl ?_
      refine am_ior X dX5_holds_73 ?_
      refine am_topi h (fun x3_74 h => ?_)
      refine am_istore_n (ls' := [some (.ref 3), none, some (.int x2), some (.int x3_74), some (.int x4), some (.int x5_14)]) X dX5_holds_74 rfl (by decide)  rfl rfl ?_
      refine am_goto (tgt := 102) X dX5_holds_75 (by decide) ?_
      exact am_jump (t_X5_holds_102 hG N k5 hk5 _ _ _ _ _ h K h0 X) rfl ⟨rfl, rfl, rfl, rfl, trivial⟩
    have h := if_f h cm3
    by_cases cm2 : (ar σ 29 x4.toNatClampNeg) = (-2 : Int32)
    · have h := if_t h cm2
      refine am_tabIn (tgt := 55) X dX5_holds_23 cm2 (by decide) (by decide) rfl (by decide) ?_
      refine am_iload_n X dX5_holds_55 rfl rfl ?_
      refine am_iconst (v := (1 : Int32)) X dX5_holds_56 (by decide) ?_
      refine am_ishr X dX5_holds_57 ?_
      refine am_iload X dX5_holds_58 rfl ?_
      refine am_bipush (v := (-2 : Int32)) X dX5_holds_60 (by decide) ?_
      refine am_ior X dX5_holds_62 ?_
      refine am_iand X dX5_holds_63 ?_
      refine am_topi h (fun x3_64 h => ?_)
      refine am_istore_n (ls' := [some (.ref 3), none, some (.int x2), some (.int x3_64), some (.int x4), some (.int x5_14)]) X dX5_holds_64 rfl (by decide)  rfl rfl ?_
      refine am_goto (tgt := 102) X dX5_holds_65 (by decide) ?_
      exact am_jump (t_X5_holds_102 hG N k5 hk5 _ _ _ _ _ h K h0 X) rfl ⟨rfl, rfl, rfl, rfl, trivial⟩
    have h := if_f h cm2
    by_cases cm1 : (ar σ 29 x4.toNatClampNeg) = (-1 : Int32)
    · have h := if_t h cm1
      refine am_tabIn (tgt := 48) X dX5_holds_23 cm1 (by decide) (by decide) rfl (by decide) ?_
      refine am_iload_n X dX5_holds_48 rfl rfl ?_
      refine am_iconst (v := (1 : Int32)) X dX5_holds_49 (by decide) ?_
      refine am_ixor X dX5_holds_50 ?_
      refine am_topi h (fun x3_51 h => ?_)
      refine am_istore_n (ls' := [some (.ref 3), none, some (.int x2), some (.int x3_51), some (.int x4), some (.int x5_14)]) X dX5_holds_51 rfl (by decide)  rfl rfl ?_
      refine am_goto (tgt := 102) X dX5_holds_52 (by decide) ?_
      exact am_jump (t_X5_holds_102 hG N k5 hk5 _ _ _ _ _ h K h0 X) rfl ⟨rfl, rfl, rfl, rfl, trivial⟩
    have h := if_f h cm1
    refine am_tabOut (tgt := 78) (vs := [(-3 : Int32), (-2 : Int32), (-1 : Int32)]) X dX5_holds_23 (List.forall_mem_cons.mpr ⟨cm3, (List.forall_mem_cons.mpr ⟨cm2, (List.forall_mem_cons.mpr ⟨cm1, (fun _ h => absurd h List.not_mem_nil)⟩)⟩)⟩) (by decide) (by decide) ?_
    refine am_iload_n X dX5_holds_78 rfl rfl ?_
    refine am_iconst (v := (1 : Int32)) X dX5_holds_79 (by decide) ?_
    refine am_ishl X dX5_holds_80 ?_
    refine am_aload_n X dX5_holds_81 rfl rfl ?_
    refine am_aload_n X dX5_holds_82 rfl rfl ?_
    refine am_getf (v := .ref 29) X dX5_holds_83 fl_X5_21 rfl rfl (by decide) ?_
    refine am_iload X dX5_holds_86 rfl ?_
    obtain ⟨g, h⟩ := gd_some h
    refine am_iald X dX5_holds_88 rfl g ?_
    obtain ⟨v89, σ89, hc, h⟩ := bd2_some h
    refine am_callv_i1 X dX5_holds_89 cw_X5_77 (ct_X5_passes hG N _ _ _ hc) (Nat.le_of_ble_eq_true rfl) rfl rfl rfl rfl (Nat.le_of_ble_eq_true rfl) ?_
    refine am_if_eq (tgt := 99) X dX5_holds_92 (by decide) (fun c => ?_) (fun c => ?_)
    · have h := if_t h c
      refine am_iconst (v := (0 : Int32)) X dX5_holds_99 (by decide) ?_
      exact am_jump (t_X5_holds_100 hG N k5 hk5 _ _ _ _ _ _ h K h0 X) rfl ⟨rfl, rfl, rfl, trivial⟩
    · have h := if_f h c
      refine am_iconst (v := (1 : Int32)) X dX5_holds_95 (by decide) ?_
      refine am_goto (tgt := 100) X dX5_holds_96 (by decide) ?_
      exact am_jump (t_X5_holds_100 hG N k5 hk5 _ _ _ _ _ _ h K h0 X) rfl ⟨rfl, rfl, rfl, trivial⟩
set_option maxRecDepth 100000 in
set_option maxHeartbeats 4000000 in
theorem t_X5_holds_5 {G : Cx} (hG : am_G G) (N : Nat) : ∀ (n : Nat) (x2 : Int32) (x3 : Int32) (x4 : Int32) (σ : Sg) (r : Int32 × Sg), b_X5_holds_5 N n x2 x3 x4 σ = some r → am_Wp G mX5_holds 1 (am_qi r.1 r.2) 5 [some (.ref 3), none, some (.int x2), some (.int x3), some (.int x4), none] [] σ := by
  intro n
  induction n with
  | zero => intro x2 x3 x4 σ r h; cases h
  | succ n ih => intro x2 x3 x4 σ r h; exact t_X5_holds_5b hG N (b_X5_holds_5 N n) ih x2 x3 x4 σ r h
set_option maxRecDepth 100000 in
set_option maxHeartbeats 4000000 in
theorem ct_X5_holds {G : Cx} (hG : am_G G) (N : Nat) (x1 : Int32) (x2 : Int32) (σ : Sg) (r : Int32 × Sg) (h : f_X5_holds N x1 x2 σ = some r) : am_Ct G 2 yX5_holds mX5_holds [.ref 3, .int x1, .int x2] σ (am_qi r.1 r.2) := by
  refine am_enter hG rfl rfl (Nat.le_of_ble_eq_true rfl) ?_
  intro K h0 X
  unfold f_X5_holds at h
  refine am_jump (pc' := 0) (ls' := [some (.ref 3), some (.int x1), some (.int x2), none, none, none]) ?_ rfl ⟨rfl, rfl, rfl, trivial⟩
  refine am_iconst (v := (0 : Int32)) X dX5_holds_0 (by decide) ?_
  refine am_istore_n (ls' := [some (.ref 3), some (.int x1), some (.int x2), some (.int (0 : Int32)), none, none]) X dX5_holds_1 rfl (by decide)  rfl rfl ?_
  refine am_iload_n X dX5_holds_2 rfl rfl ?_
  refine am_istore (ls' := [some (.ref 3), some (.int x1), some (.int x2), some (.int (0 : Int32)), some (.int x1), none]) X dX5_holds_3 (by decide)  rfl rfl ?_
  exact am_jump (t_X5_holds_5 hG N N _ _ _ _ _ h K h0 X) rfl ⟨rfl, rfl, rfl, rfl, trivial⟩
set_option maxRecDepth 100000 in
set_option maxHeartbeats 4000000 in
theorem t_X5_sum_122 {G : Cx} (hG : am_G G) (N : Nat) (k67 : Int32 → Int32 → Int32 → Sg → Option (Int32 × Sg)) (hk67 : ∀ (x1 : Int32) (x4 : Int32) (x5 : Int32) (σ : Sg) (r : Int32 × Sg), k67 x1 x4 x5 σ = some r → am_Wp G mX5_sum 2 (am_qi r.1 r.2) 67 [some (.ref 3), some (.int x1), none, none, some (.int x4), some (.int x5)] [] σ) (x1 : Int32) (x4 : Int32) (x5 : Int32) (σ : Sg) (r : Int32 × Sg) (h : b_X5_sum_122 N k67 x1 x4 x5 σ = some r) : am_Wp G mX5_sum 2 (am_qi r.1 r.2) 122 [some (.ref 3), some (.int x1), none, none, some (.int x4), some (.int x5)] [] σ := by
  intro K h0 X
  unfold b_X5_sum_122 at h
  refine am_iinc (ls' := fun x5_122 => [some (.ref 3), some (.int x1), none, none, some (.int x4), some (.int x5_122)]) X dX5_sum_122 rfl h (by decide) (by decide) rfl (fun _ => rfl) (fun x5_122 h => ?_)
  refine am_goto (tgt := 67) X dX5_sum_125 (by decide) ?_
  exact am_jump (hk67 _ _ _ _ _ h K h0 X) rfl ⟨rfl, rfl, rfl, rfl, trivial⟩
set_option maxRecDepth 100000 in
set_option maxHeartbeats 4000000 in
theorem t_X5_sum_67b {G : Cx} (hG : am_G G) (N : Nat) (k67 : Int32 → Int32 → Int32 → Sg → Option (Int32 × Sg)) (hk67 : ∀ (x1 : Int32) (x4 : Int32) (x5 : Int32) (σ : Sg) (r : Int32 × Sg), k67 x1 x4 x5 σ = some r → am_Wp G mX5_sum 2 (am_qi r.1 r.2) 67 [some (.ref 3), some (.int x1), none, none, some (.int x4), some (.int x5)] [] σ) (x1 : Int32) (x4 : Int32) (x5 : Int32) (σ : Sg) (r : Int32 × Sg) (h : b_X5_sum_67b N k67 x1 x4 x5 σ = some r) : am_Wp G mX5_sum 2 (am_qi r.1 r.2) 67 [some (.ref 3), some (.int x1), none, none, some (.int x4), some (.int x5)] [] σ := by
  intro K h0 X
  unfold b_X5_sum_67b at h
  refine am_iload X dX5_sum_67 rfl ?_
  refine am_aload_n X dX5_sum_69 rfl rfl ?_
  refine am_getf (v := .int (rg σ 3 0)) X dX5_sum_70 fl_X5_27 rfl rfl (by decide) ?_
  refine am_icmp_ge (tgt := 128) X dX5_sum_73 (by decide) (fun c => ?_) (fun c => ?_)
  · have h := if_t h c
    refine am_iload X dX5_sum_128 rfl ?_
    obtain rfl := Option.some.inj h
    exact am_iret X h0 dX5_sum_130 rfl ⟨rfl, rfl⟩
  · have h := if_f h c
    refine am_aload_n X dX5_sum_76 rfl rfl ?_
    refine am_getf (v := .ref 26) X dX5_sum_77 fl_X5_9 rfl rfl (by decide) ?_
    refine am_iload X dX5_sum_80 rfl ?_
    obtain ⟨g, h⟩ := gd_some h
    refine am_iald X dX5_sum_82 rfl g ?_
    refine am_iload_n X dX5_sum_83 rfl rfl ?_
    refine am_icmp_ne (tgt := 122) X dX5_sum_84 (by decide) (fun c => ?_) (fun c => ?_)
    · have h := if_f h c
      exact am_jump (t_X5_sum_122 hG N k67 hk67 _ _ _ _ _ h K h0 X) rfl ⟨rfl, rfl, rfl, rfl, trivial⟩
    · have h := if_t h c
      refine am_aload_n X dX5_sum_87 rfl rfl ?_
      refine am_aload_n X dX5_sum_88 rfl rfl ?_
      refine am_getf (v := .ref 28) X dX5_sum_89 fl_X5_18 rfl rfl (by decide) ?_
      refine am_iload X dX5_sum_92 rfl ?_
      obtain ⟨g, h⟩ := gd_some h
      refine am_iald X dX5_sum_94 rfl g ?_
      refine am_aload_n X dX5_sum_95 rfl rfl ?_
      refine am_getf (v := .ref 28) X dX5_sum_96 fl_X5_18 rfl rfl (by decide) ?_
      refine am_iload X dX5_sum_99 rfl ?_
      refine am_iconst (v := (1 : Int32)) X dX5_sum_101 (by decide) ?_
      refine am_iadd X dX5_sum_102 ?_
      obtain ⟨g, h⟩ := gd_some h
      refine am_iald X dX5_sum_103 rfl g ?_
      obtain ⟨v104, σ104, hc, h⟩ := bd2_some h
      refine am_callv_i2 X dX5_sum_104 cw_X5_73 (ct_X5_holds hG N _ _ _ _ hc) (Nat.le_of_ble_eq_true rfl) rfl rfl rfl rfl (Nat.le_of_ble_eq_true rfl) ?_
      refine am_if_eq (tgt := 122) X dX5_sum_107 (by decide) (fun c => ?_) (fun c => ?_)
      · have h := if_t h c
        exact am_jump (t_X5_sum_122 hG N k67 hk67 _ _ _ _ _ h K h0 X) rfl ⟨rfl, rfl, rfl, rfl, trivial⟩
      · have h := if_f h c
        refine am_iload X dX5_sum_110 rfl ?_
        refine am_aload_n X dX5_sum_112 rfl rfl ?_
        refine am_getf (v := .ref 27) X dX5_sum_113 fl_X5_15 rfl rfl (by decide) ?_
        refine am_iload X dX5_sum_116 rfl ?_
        obtain ⟨g, h⟩ := gd_some h
        refine am_iald X dX5_sum_118 rfl g ?_
        refine am_iadd X dX5_sum_119 ?_
        refine am_topi h (fun x4_120 h => ?_)
        refine am_istore (ls' := [some (.ref 3), some (.int x1), none, none, some (.int x4_120), some (.int x5)]) X dX5_sum_120 (by decide)  rfl rfl ?_
        exact am_jump (t_X5_sum_122 hG N k67 hk67 _ _ _ _ _ h K h0 X) rfl ⟨rfl, rfl, rfl, rfl, trivial⟩
set_option maxRecDepth 100000 in
set_option maxHeartbeats 4000000 in
theorem t_X5_sum_67 {G : Cx} (hG : am_G G) (N : Nat) : ∀ (n : Nat) (x1 : Int32) (x4 : Int32) (x5 : Int32) (σ : Sg) (r : Int32 × Sg), b_X5_sum_67 N n x1 x4 x5 σ = some r → am_Wp G mX5_sum 2 (am_qi r.1 r.2) 67 [some (.ref 3), some (.int x1), none, none, some (.int x4), some (.int x5)] [] σ := by
  intro n
  induction n with
  | zero => intro x1 x4 x5 σ r h; cases h
  | succ n ih => intro x1 x4 x5 σ r h; exact t_X5_sum_67b hG N (b_X5_sum_67 N n) ih x1 x4 x5 σ r h
set_option maxRecDepth 100000 in
set_option maxHeartbeats 4000000 in
theorem ct_X5_sum {G : Cx} (hG : am_G G) (N : Nat) (x1 : Int32) (x3 : Int32) (σ : Sg) (r : Int32 × Sg) (h : f_X5_sum N x1 x3 σ = some r) : am_Ct G 3 yX5_sum mX5_sum [.ref 3, .int x1, .ref 1, .int x3] σ (am_qi r.1 r.2) := by
  refine am_enter hG rfl rfl (Nat.le_of_ble_eq_true rfl) ?_
  intro K h0 X
  unfold f_X5_sum at h
  refine am_jump (pc' := 0) (ls' := [some (.ref 3), some (.int x1), some (.ref 1), some (.int x3), none, none]) ?_ rfl ⟨rfl, rfl, rfl, rfl, trivial⟩
  refine am_aload_n X dX5_sum_0 rfl rfl ?_
  refine am_getf (v := .ref 30) X dX5_sum_1 fl_X5_24 rfl rfl (by decide) ?_
  refine am_iconst (v := (0 : Int32)) X dX5_sum_4 (by decide) ?_
  refine am_iload_n X dX5_sum_5 rfl rfl ?_
  obtain ⟨g, h⟩ := gd_some h
  refine am_iast X dX5_sum_6 rfl g ?_
  refine am_tops h (fun σ6 h => ?_)
  refine am_aload_n X dX5_sum_7 rfl rfl ?_
  refine am_getf (v := .ref 30) X dX5_sum_8 fl_X5_24 rfl rfl (by decide) ?_
  refine am_iconst (v := (1 : Int32)) X dX5_sum_11 (by decide) ?_
  refine am_aload_n X dX5_sum_12 rfl rfl ?_
  refine am_getf (v := .ref 10) X dX5_sum_13 fl_X5_48 rfl rfl (by decide) ?_
  refine am_iload_n X dX5_sum_16 rfl rfl ?_
  obtain ⟨g, h⟩ := gd_some h
  refine am_iald X dX5_sum_17 rfl g ?_
  obtain ⟨g, h⟩ := gd_some h
  refine am_iast X dX5_sum_18 rfl g ?_
  refine am_tops h (fun σ18 h => ?_)
  refine am_aload_n X dX5_sum_19 rfl rfl ?_
  refine am_getf (v := .ref 30) X dX5_sum_20 fl_X5_24 rfl rfl (by decide) ?_
  refine am_iconst (v := (2 : Int32)) X dX5_sum_23 (by decide) ?_
  refine am_aload_n X dX5_sum_24 rfl rfl ?_
  refine am_iload_n X dX5_sum_25 rfl rfl ?_
  obtain ⟨v26, σ26, hc, h⟩ := bd2_some h
  refine am_callv_i1 X dX5_sum_26 cw_X5_53 (ct_X4_uneven hG N _ _ _ hc) (Nat.le_of_ble_eq_true rfl) rfl rfl rfl rfl (Nat.le_of_ble_eq_true rfl) ?_
  refine am_abs X dX5_sum_29 (wm_r17 _ (List.mem_of_getElem? (i := 18) rfl)) ⟨Nat.le_add_left 1 _, Nat.le_of_ble_eq_true rfl⟩ ?_
  obtain ⟨g, h⟩ := gd_some h
  refine am_iast X dX5_sum_32 rfl g ?_
  refine am_tops h (fun σ32 h => ?_)
  refine am_aload_n X dX5_sum_33 rfl rfl ?_
  refine am_getf (v := .ref 30) X dX5_sum_34 fl_X5_24 rfl rfl (by decide) ?_
  refine am_iconst (v := (3 : Int32)) X dX5_sum_37 (by decide) ?_
  refine am_aload_n X dX5_sum_38 rfl rfl ?_
  refine am_getf (v := .int (rg σ32 1 6)) X dX5_sum_39 fl_X5_62 rfl rfl (by decide) ?_
  refine am_bipush (v := (7 : Int32)) X dX5_sum_42 (by decide) ?_
  refine am_irem X dX5_sum_44 (by decide) ?_
  obtain ⟨g, h⟩ := gd_some h
  refine am_iast X dX5_sum_45 rfl g ?_
  refine am_tops h (fun σ45 h => ?_)
  refine am_aload_n X dX5_sum_46 rfl rfl ?_
  refine am_getf (v := .ref 30) X dX5_sum_47 fl_X5_24 rfl rfl (by decide) ?_
  refine am_iconst (v := (4 : Int32)) X dX5_sum_50 (by decide) ?_
  refine am_aload_n X dX5_sum_51 rfl rfl ?_
  refine am_getf (v := .ref 14) X dX5_sum_52 fl_X5_65 rfl rfl (by decide) ?_
  refine am_iload_n X dX5_sum_55 rfl rfl ?_
  obtain ⟨g, h⟩ := gd_some h
  refine am_iald X dX5_sum_56 rfl g ?_
  obtain ⟨v57, σ57, hc, h⟩ := bd2_some h
  refine am_calls_i1 X dX5_sum_57 cw_X5_68 (ct_J6_bitCount_0f7a4 hG N _ _ _ hc) (Nat.le_of_ble_eq_true rfl) rfl (Nat.le_of_ble_eq_true rfl) ?_
  obtain ⟨g, h⟩ := gd_some h
  refine am_iast X dX5_sum_60 rfl g ?_
  refine am_tops h (fun σ60 h => ?_)
  refine am_iconst (v := (0 : Int32)) X dX5_sum_61 (by decide) ?_
  refine am_istore (ls' := [some (.ref 3), some (.int x1), some (.ref 1), some (.int x3), some (.int (0 : Int32)), none]) X dX5_sum_62 (by decide)  rfl rfl ?_
  refine am_iconst (v := (0 : Int32)) X dX5_sum_64 (by decide) ?_
  refine am_istore (ls' := [some (.ref 3), some (.int x1), some (.ref 1), some (.int x3), some (.int (0 : Int32)), some (.int (0 : Int32))]) X dX5_sum_65 (by decide)  rfl rfl ?_
  exact am_jump (t_X5_sum_67 hG N N _ _ _ _ _ h K h0 X) rfl ⟨rfl, rfl, rfl, rfl, trivial⟩
set_option maxRecDepth 100000 in
set_option maxHeartbeats 4000000 in
theorem ct_X4_allowed {G : Cx} (hG : am_G G) (N : Nat) (x1 : Int32) (σ : Sg) (r : Int32 × Sg) (h : f_X4_allowed N x1 σ = some r) : am_Ct G 4 yX4_allowed mX4_allowed [.ref 1, .int x1] σ (am_qi r.1 r.2) := by
  refine am_enter hG rfl rfl (Nat.le_of_ble_eq_true rfl) ?_
  intro K h0 X
  unfold f_X4_allowed at h
  refine am_jump (pc' := 0) (ls' := [some (.ref 1), some (.int x1), none]) ?_ rfl ⟨rfl, rfl, trivial⟩
  refine am_aload_n X dX4_allowed_0 rfl rfl ?_
  refine am_getf (v := .ref 10) X dX4_allowed_1 fl_X4_9 rfl rfl (by decide) ?_
  refine am_iload_n X dX4_allowed_4 rfl rfl ?_
  obtain ⟨g, h⟩ := gd_some h
  refine am_iald X dX4_allowed_5 rfl g ?_
  refine am_iconst (v := (4 : Int32)) X dX4_allowed_6 (by decide) ?_
  refine am_icmp_ne (tgt := 14) X dX4_allowed_7 (by decide) (fun c => ?_) (fun c => ?_)
  · have h := if_f h c
    refine am_aload_n X dX4_allowed_14 rfl rfl ?_
    refine am_getf (v := .ref 3) X dX4_allowed_15 fl_X4_33 rfl rfl (by decide) ?_
    refine am_iconst (v := (2 : Int32)) X dX4_allowed_18 (by decide) ?_
    refine am_aload_n X dX4_allowed_19 rfl rfl ?_
    refine am_iload_n X dX4_allowed_20 rfl rfl ?_
    obtain ⟨v21, σ21, hc, h⟩ := bd2_some h
    refine am_callv_i3 X dX4_allowed_21 cw_X4_73 (ct_X5_sum hG N _ _ _ _ hc) (Nat.le_of_ble_eq_true rfl) rfl rfl rfl rfl (Nat.le_of_ble_eq_true rfl) ?_
    refine am_istore_n (ls' := [some (.ref 1), some (.int x1), some (.int v21)]) X dX4_allowed_24 rfl (by decide)  rfl rfl ?_
    refine am_aload_n X dX4_allowed_25 rfl rfl ?_
    refine am_getf (v := .ref 10) X dX4_allowed_26 fl_X4_9 rfl rfl (by decide) ?_
    refine am_iload_n X dX4_allowed_29 rfl rfl ?_
    obtain ⟨g, h⟩ := gd_some h
    refine am_iald X dX4_allowed_30 rfl g ?_
    refine am_iconst (v := (1 : Int32)) X dX4_allowed_31 (by decide) ?_
    refine am_icmp_ne (tgt := 54) X dX4_allowed_32 (by decide) (fun c => ?_) (fun c => ?_)
    · have h := if_f h c
      refine am_iload_n X dX4_allowed_54 rfl rfl ?_
      obtain rfl := Option.some.inj h
      exact am_iret X h0 dX4_allowed_55 rfl ⟨rfl, rfl⟩
    · have h := if_t h c
      refine am_aload_n X dX4_allowed_35 rfl rfl ?_
      refine am_getf (v := .int (rg σ21 1 6)) X dX4_allowed_36 fl_X4_53 rfl rfl (by decide) ?_
      refine am_bipush (v := (7 : Int32)) X dX4_allowed_39 (by decide) ?_
      refine am_irem X dX4_allowed_41 (by decide) ?_
      refine am_if_ne (tgt := 54) X dX4_allowed_42 (by decide) (fun c => ?_) (fun c => ?_)
      · have h := if_f h c
        refine am_iload_n X dX4_allowed_54 rfl rfl ?_
        obtain rfl := Option.some.inj h
        exact am_iret X h0 dX4_allowed_55 rfl ⟨rfl, rfl⟩
      · have h := if_t h c
        refine am_iload_n X dX4_allowed_45 rfl rfl ?_
        refine am_aload_n X dX4_allowed_46 rfl rfl ?_
        refine am_getf (v := .ref 11) X dX4_allowed_47 fl_X4_15 rfl rfl (by decide) ?_
        refine am_iload_n X dX4_allowed_50 rfl rfl ?_
        obtain ⟨g, h⟩ := gd_some h
        refine am_iald X dX4_allowed_51 rfl g ?_
        refine am_iadd X dX4_allowed_52 ?_
        refine am_topi h (fun x2_53 h => ?_)
        refine am_istore_n (ls' := [some (.ref 1), some (.int x1), some (.int x2_53)]) X dX4_allowed_53 rfl (by decide)  rfl rfl ?_
        refine am_iload_n X dX4_allowed_54 rfl rfl ?_
        obtain rfl := Option.some.inj h
        exact am_iret X h0 dX4_allowed_55 rfl ⟨rfl, rfl⟩
  · have h := if_t h c
    refine am_sipush (v := (9999 : Int32)) X dX4_allowed_10 (by decide) ?_
    obtain rfl := Option.some.inj h
    exact am_iret X h0 dX4_allowed_13 rfl ⟨rfl, rfl⟩
set_option maxRecDepth 100000 in
set_option maxHeartbeats 4000000 in
theorem ct_X4_fine {G : Cx} (hG : am_G G) (N : Nat) (x1 : Int32) (σ : Sg) (r : Int32 × Sg) (h : f_X4_fine N x1 σ = some r) : am_Ct G 4 yX4_fine mX4_fine [.ref 1, .int x1] σ (am_qi r.1 r.2) := by
  refine am_enter hG rfl rfl (Nat.le_of_ble_eq_true rfl) ?_
  intro K h0 X
  unfold f_X4_fine at h
  refine am_jump (pc' := 0) (ls' := [some (.ref 1), some (.int x1), none]) ?_ rfl ⟨rfl, rfl, trivial⟩
  refine am_bipush (v := (10 : Int32)) X dX4_fine_0 (by decide) ?_
  refine am_aload_n X dX4_fine_2 rfl rfl ?_
  refine am_getf (v := .ref 3) X dX4_fine_3 fl_X4_33 rfl rfl (by decide) ?_
  refine am_iconst (v := (0 : Int32)) X dX4_fine_6 (by decide) ?_
  refine am_aload_n X dX4_fine_7 rfl rfl ?_
  refine am_iload_n X dX4_fine_8 rfl rfl ?_
  obtain ⟨v9, σ9, hc, h⟩ := bd2_some h
  refine am_callv_i3 X dX4_fine_9 cw_X4_73 (ct_X5_sum hG N _ _ _ _ hc) (Nat.le_of_ble_eq_true rfl) rfl rfl rfl rfl (Nat.le_of_ble_eq_true rfl) ?_
  refine am_iadd X dX4_fine_12 ?_
  refine am_topi h (fun x2_13 h => ?_)
  refine am_istore_n (ls' := [some (.ref 1), some (.int x1), some (.int x2_13)]) X dX4_fine_13 rfl (by decide)  rfl rfl ?_
  refine am_aload_n X dX4_fine_14 rfl rfl ?_
  refine am_getf (v := .ref 10) X dX4_fine_15 fl_X4_9 rfl rfl (by decide) ?_
  refine am_iload_n X dX4_fine_18 rfl rfl ?_
  obtain ⟨g, h⟩ := gd_some h
  refine am_iald X dX4_fine_19 rfl g ?_
  refine am_iconst (v := (2 : Int32)) X dX4_fine_20 (by decide) ?_
  obtain ⟨v21, σ21, hc, h⟩ := bd2_some h
  refine am_callsN_i2 X dX4_fine_21 rfl rfl rfl (ct_X6_isUnder hG N _ _ _ _ hc) (Nat.le_of_ble_eq_true rfl) rfl (Nat.le_of_ble_eq_true rfl) ?_
  refine am_if_eq (tgt := 33) X dX4_fine_24 (by decide) (fun c => ?_) (fun c => ?_)
  · have h := if_t h c
    refine am_iload_n X dX4_fine_33 rfl rfl ?_
    obtain rfl := Option.some.inj h
    exact am_iret X h0 dX4_fine_34 rfl ⟨rfl, rfl⟩
  · have h := if_f h c
    refine am_iload_n X dX4_fine_27 rfl rfl ?_
    refine am_iconst (v := (2 : Int32)) X dX4_fine_28 (by decide) ?_
    refine am_idiv X dX4_fine_29 (by decide) ?_
    refine am_goto (tgt := 34) X dX4_fine_30 (by decide) ?_
    obtain rfl := Option.some.inj h
    exact am_iret X h0 dX4_fine_34 rfl ⟨rfl, rfl⟩
set_option maxRecDepth 100000 in
set_option maxHeartbeats 4000000 in
theorem ct_X4_step {G : Cx} (hG : am_G G) (N : Nat) (x1 : Int32) (σ : Sg) (r : Int32 × Sg) (h : f_X4_step N x1 σ = some r) : am_Ct G 4 yX4_step mX4_step [.ref 1, .int x1] σ (am_qi r.1 r.2) := by
  refine am_enter hG rfl rfl (Nat.le_of_ble_eq_true rfl) ?_
  intro K h0 X
  unfold f_X4_step at h
  refine am_jump (pc' := 0) (ls' := [some (.ref 1), some (.int x1), none]) ?_ rfl ⟨rfl, rfl, trivial⟩
  refine am_iconst (v := (1 : Int32)) X dX4_step_0 (by decide) ?_
  refine am_aload_n X dX4_step_1 rfl rfl ?_
  refine am_getf (v := .ref 3) X dX4_step_2 fl_X4_33 rfl rfl (by decide) ?_
  refine am_iconst (v := (1 : Int32)) X dX4_step_5 (by decide) ?_
  refine am_aload_n X dX4_step_6 rfl rfl ?_
  refine am_iload_n X dX4_step_7 rfl rfl ?_
  obtain ⟨v8, σ8, hc, h⟩ := bd2_some h
  refine am_callv_i3 X dX4_step_8 cw_X4_73 (ct_X5_sum hG N _ _ _ _ hc) (Nat.le_of_ble_eq_true rfl) rfl rfl rfl rfl (Nat.le_of_ble_eq_true rfl) ?_
  refine am_iadd X dX4_step_11 ?_
  refine am_topi h (fun x2_12 h => ?_)
  refine am_istore_n (ls' := [some (.ref 1), some (.int x1), some (.int x2_12)]) X dX4_step_12 rfl (by decide)  rfl rfl ?_
  refine am_aload_n X dX4_step_13 rfl rfl ?_
  refine am_getf (v := .ref 10) X dX4_step_14 fl_X4_9 rfl rfl (by decide) ?_
  refine am_iload_n X dX4_step_17 rfl rfl ?_
  obtain ⟨g, h⟩ := gd_some h
  refine am_iald X dX4_step_18 rfl g ?_
  refine am_iconst (v := (5 : Int32)) X dX4_step_19 (by decide) ?_
  refine am_icmp_ne (tgt := 29) X dX4_step_20 (by decide) (fun c => ?_) (fun c => ?_)
  · have h := if_f h c
    refine am_iload_n X dX4_step_29 rfl rfl ?_
    obtain rfl := Option.some.inj h
    exact am_iret X h0 dX4_step_30 rfl ⟨rfl, rfl⟩
  · have h := if_t h c
    refine am_iload_n X dX4_step_23 rfl rfl ?_
    refine am_iconst (v := (1 : Int32)) X dX4_step_24 (by decide) ?_
    refine am_isub X dX4_step_25 ?_
    refine am_goto (tgt := 30) X dX4_step_26 (by decide) ?_
    obtain rfl := Option.some.inj h
    exact am_iret X h0 dX4_step_30 rfl ⟨rfl, rfl⟩
set_option maxRecDepth 100000 in
set_option maxHeartbeats 4000000 in
theorem t_X1_load_10b {G : Cx} (hG : am_G G) (N : Nat) (k10 : Int32 → Sg → Option (Sg)) (hk10 : ∀ (x2 : Int32) (σ : Sg) (r : Sg), k10 x2 σ = some r → am_Wp G mX1_load 4 (am_qv r) 10 [some (.ref 7), some (.ref 1), some (.int x2)] [] σ) (x2 : Int32) (σ : Sg) (r : Sg) (h : b_X1_load_10b N k10 x2 σ = some r) : am_Wp G mX1_load 4 (am_qv r) 10 [some (.ref 7), some (.ref 1), some (.int x2)] [] σ := by
  intro K h0 X
  unfold b_X1_load_10b at h
  refine am_iload_n X dX1_load_10 rfl rfl ?_
  refine am_aload_n X dX1_load_11 rfl rfl ?_
  refine am_getf (v := .int (rg σ 7 0)) X dX1_load_12 fl_X1_54 rfl rfl (by decide) ?_
  refine am_icmp_ge (tgt := 79) X dX1_load_15 (by decide) (fun c => ?_) (fun c => ?_)
  · have h := if_t h c
    obtain rfl := Option.some.inj h
    exact am_vret X h0 dX1_load_79 rfl ⟨rfl, rfl⟩
  · have h := if_f h c
    refine am_aload_n X dX1_load_18 rfl rfl ?_
    refine am_getf (v := .ref 42) X dX1_load_19 fl_X1_9 rfl rfl (by decide) ?_
    refine am_iload_n X dX1_load_22 rfl rfl ?_
    refine am_aload_n X dX1_load_23 rfl rfl ?_
    refine am_iload_n X dX1_load_24 rfl rfl ?_
    obtain ⟨v25, σ25, hc, h⟩ := bd2_some h
    refine am_callv_i1 X dX1_load_25 cw_X1_55 (ct_X4_openFrom hG N _ _ _ hc) (Nat.le_of_ble_eq_true rfl) rfl rfl rfl rfl (Nat.le_of_ble_eq_true rfl) ?_
    obtain ⟨g, h⟩ := gd_some h
    refine am_iast X dX1_load_28 rfl g ?_
    refine am_tops h (fun σ28 h => ?_)
    refine am_aload_n X dX1_load_29 rfl rfl ?_
    refine am_getf (v := .ref 43) X dX1_load_30 fl_X1_15 rfl rfl (by decide) ?_
    refine am_iload_n X dX1_load_33 rfl rfl ?_
    refine am_aload_n X dX1_load_34 rfl rfl ?_
    refine am_iload_n X dX1_load_35 rfl rfl ?_
    obtain ⟨v36, σ36, hc, h⟩ := bd2_some h
    refine am_callv_i1 X dX1_load_36 cw_X1_59 (ct_X4_allowed hG N _ _ _ hc) (Nat.le_of_ble_eq_true rfl) rfl rfl rfl rfl (Nat.le_of_ble_eq_true rfl) ?_
    obtain ⟨g, h⟩ := gd_some h
    refine am_iast X dX1_load_39 rfl g ?_
    refine am_tops h (fun σ39 h => ?_)
    refine am_aload_n X dX1_load_40 rfl rfl ?_
    refine am_getf (v := .ref 44) X dX1_load_41 fl_X1_18 rfl rfl (by decide) ?_
    refine am_iload_n X dX1_load_44 rfl rfl ?_
    refine am_aload_n X dX1_load_45 rfl rfl ?_
    refine am_iload_n X dX1_load_46 rfl rfl ?_
    obtain ⟨v47, σ47, hc, h⟩ := bd2_some h
    refine am_callv_i1 X dX1_load_47 cw_X1_61 (ct_X4_uneven hG N _ _ _ hc) (Nat.le_of_ble_eq_true rfl) rfl rfl rfl rfl (Nat.le_of_ble_eq_true rfl) ?_
    obtain ⟨g, h⟩ := gd_some h
    refine am_iast X dX1_load_50 rfl g ?_
    refine am_tops h (fun σ50 h => ?_)
    refine am_aload_n X dX1_load_51 rfl rfl ?_
    refine am_getf (v := .ref 45) X dX1_load_52 fl_X1_21 rfl rfl (by decide) ?_
    refine am_iload_n X dX1_load_55 rfl rfl ?_
    refine am_aload_n X dX1_load_56 rfl rfl ?_
    refine am_iload_n X dX1_load_57 rfl rfl ?_
    obtain ⟨v58, σ58, hc, h⟩ := bd2_some h
    refine am_callv_i1 X dX1_load_58 cw_X1_63 (ct_X4_fine hG N _ _ _ hc) (Nat.le_of_ble_eq_true rfl) rfl rfl rfl rfl (Nat.le_of_ble_eq_true rfl) ?_
    obtain ⟨g, h⟩ := gd_some h
    refine am_iast X dX1_load_61 rfl g ?_
    refine am_tops h (fun σ61 h => ?_)
    refine am_aload_n X dX1_load_62 rfl rfl ?_
    refine am_getf (v := .ref 46) X dX1_load_63 fl_X1_24 rfl rfl (by decide) ?_
    refine am_iload_n X dX1_load_66 rfl rfl ?_
    refine am_aload_n X dX1_load_67 rfl rfl ?_
    refine am_iload_n X dX1_load_68 rfl rfl ?_
    obtain ⟨v69, σ69, hc, h⟩ := bd2_some h
    refine am_callv_i1 X dX1_load_69 cw_X1_65 (ct_X4_step hG N _ _ _ hc) (Nat.le_of_ble_eq_true rfl) rfl rfl rfl rfl (Nat.le_of_ble_eq_true rfl) ?_
    obtain ⟨g, h⟩ := gd_some h
    refine am_iast X dX1_load_72 rfl g ?_
    refine am_tops h (fun σ72 h => ?_)
    refine am_iinc (ls' := fun x2_73 => [some (.ref 7), some (.ref 1), some (.int x2_73)]) X dX1_load_73 rfl h (by decide) (by decide) rfl (fun _ => rfl) (fun x2_73 h => ?_)
    refine am_goto (tgt := 10) X dX1_load_76 (by decide) ?_
    exact am_jump (hk10 _ _ _ h K h0 X) rfl ⟨rfl, rfl, rfl, trivial⟩
set_option maxRecDepth 100000 in
set_option maxHeartbeats 4000000 in
theorem t_X1_load_10 {G : Cx} (hG : am_G G) (N : Nat) : ∀ (n : Nat) (x2 : Int32) (σ : Sg) (r : Sg), b_X1_load_10 N n x2 σ = some r → am_Wp G mX1_load 4 (am_qv r) 10 [some (.ref 7), some (.ref 1), some (.int x2)] [] σ := by
  intro n
  induction n with
  | zero => intro x2 σ r h; cases h
  | succ n ih => intro x2 σ r h; exact t_X1_load_10b hG N (b_X1_load_10 N n) ih x2 σ r h
set_option maxRecDepth 100000 in
set_option maxHeartbeats 4000000 in
theorem ct_X1_load {G : Cx} (hG : am_G G) (N : Nat) (σ : Sg) (r : Sg) (h : f_X1_load N σ = some r) : am_Ct G 5 yX1_load mX1_load [.ref 7, .ref 1] σ (am_qv r) := by
  refine am_enter hG rfl rfl (Nat.le_of_ble_eq_true rfl) ?_
  intro K h0 X
  unfold f_X1_load at h
  refine am_jump (pc' := 0) (ls' := [some (.ref 7), some (.ref 1), none]) ?_ rfl ⟨rfl, rfl, trivial⟩
  refine am_aload_n X dX1_load_0 rfl rfl ?_
  refine am_aload_n X dX1_load_1 rfl rfl ?_
  refine am_getf (v := .int (rg σ 1 0)) X dX1_load_2 fl_X1_48 rfl rfl (by decide) ?_
  refine am_putfi X dX1_load_5 fp_X1_54 rfl rfl ?_
  refine am_tops h (fun σ5 h => ?_)
  refine am_iconst (v := (0 : Int32)) X dX1_load_8 (by decide) ?_
  refine am_istore_n (ls' := [some (.ref 7), some (.ref 1), some (.int (0 : Int32))]) X dX1_load_9 rfl (by decide)  rfl rfl ?_
  exact am_jump (t_X1_load_10 hG N N _ _ _ h K h0 X) rfl ⟨rfl, rfl, rfl, trivial⟩
set_option maxRecDepth 100000 in
set_option maxHeartbeats 4000000 in
theorem t_J7_fill_53178_5b {G : Cx} (hG : am_G G) (N : Nat) (k5 : Int32 → Int32 → Int32 → Sg → Option (Sg)) (hk5 : ∀ (x1 : Int32) (x2 : Int32) (x3 : Int32) (σ : Sg) (r : Sg), k5 x1 x2 x3 σ = some r → am_Wp G mJ7_fill_53178 0 (am_qv r) 5 [some (.ref 51), some (.int x1), some (.int x2), some (.int x3)] [] σ) (x1 : Int32) (x2 : Int32) (x3 : Int32) (σ : Sg) (r : Sg) (h : b_J7_fill_53178_5b N k5 x1 x2 x3 σ = some r) : am_Wp G mJ7_fill_53178 0 (am_qv r) 5 [some (.ref 51), some (.int x1), some (.int x2), some (.int x3)] [] σ := by
  intro K h0 X
  unfold b_J7_fill_53178_5b at h
  refine am_iload_n X dJ7_fill_53178_5 rfl rfl ?_
  refine am_iload_n X dJ7_fill_53178_6 rfl rfl ?_
  refine am_icmp_ge (tgt := 20) X dJ7_fill_53178_7 (by decide) (fun c => ?_) (fun c => ?_)
  · have h := if_t h c
    obtain rfl := Option.some.inj h
    exact am_vret X h0 dJ7_fill_53178_20 rfl ⟨rfl, rfl⟩
  · have h := if_f h c
    refine am_aload_n X dJ7_fill_53178_10 rfl rfl ?_
    refine am_iload_n X dJ7_fill_53178_11 rfl rfl ?_
    refine am_iload_n X dJ7_fill_53178_12 rfl rfl ?_
    obtain ⟨g, h⟩ := gd_some h
    refine am_iast X dJ7_fill_53178_13 rfl g ?_
    refine am_tops h (fun σ13 h => ?_)
    refine am_iinc (ls' := fun x2_14 => [some (.ref 51), some (.int x1), some (.int x2_14), some (.int x3)]) X dJ7_fill_53178_14 rfl h (by decide) (by decide) rfl (fun _ => rfl) (fun x2_14 h => ?_)
    refine am_goto (tgt := 5) X dJ7_fill_53178_17 (by decide) ?_
    exact am_jump (hk5 _ _ _ _ _ h K h0 X) rfl ⟨rfl, rfl, rfl, rfl, trivial⟩
set_option maxRecDepth 100000 in
set_option maxHeartbeats 4000000 in
theorem t_J7_fill_53178_5 {G : Cx} (hG : am_G G) (N : Nat) : ∀ (n : Nat) (x1 : Int32) (x2 : Int32) (x3 : Int32) (σ : Sg) (r : Sg), b_J7_fill_53178_5 N n x1 x2 x3 σ = some r → am_Wp G mJ7_fill_53178 0 (am_qv r) 5 [some (.ref 51), some (.int x1), some (.int x2), some (.int x3)] [] σ := by
  intro n
  induction n with
  | zero => intro x1 x2 x3 σ r h; cases h
  | succ n ih => intro x1 x2 x3 σ r h; exact t_J7_fill_53178_5b hG N (b_J7_fill_53178_5 N n) ih x1 x2 x3 σ r h
set_option maxRecDepth 100000 in
set_option maxHeartbeats 4000000 in
theorem ct_J7_fill_53178 {G : Cx} (hG : am_G G) (N : Nat) (x1 : Int32) (σ : Sg) (r : Sg) (h : f_J7_fill_53178 N x1 σ = some r) : am_Ct G 1 yJ7_fill_53178 mJ7_fill_53178 [.ref 51, .int x1] σ (am_qv r) := by
  refine am_enter hG rfl rfl (Nat.le_of_ble_eq_true rfl) ?_
  intro K h0 X
  unfold f_J7_fill_53178 at h
  refine am_jump (pc' := 0) (ls' := [some (.ref 51), some (.int x1), none, none]) ?_ rfl ⟨rfl, rfl, trivial⟩
  refine am_iconst (v := (0 : Int32)) X dJ7_fill_53178_0 (by decide) ?_
  refine am_istore_n (ls' := [some (.ref 51), some (.int x1), some (.int (0 : Int32)), none]) X dJ7_fill_53178_1 rfl (by decide)  rfl rfl ?_
  refine am_aload_n X dJ7_fill_53178_2 rfl rfl ?_
  refine am_alen (v := (8 : Int32)) X dJ7_fill_53178_3 rfl rfl ?_
  refine am_istore_n (ls' := [some (.ref 51), some (.int x1), some (.int (0 : Int32)), some (.int (8 : Int32))]) X dJ7_fill_53178_4 rfl (by decide)  rfl rfl ?_
  exact am_jump (t_J7_fill_53178_5 hG N N _ _ _ _ _ h K h0 X) rfl ⟨rfl, rfl, rfl, rfl, trivial⟩
set_option maxRecDepth 100000 in
set_option maxHeartbeats 4000000 in
theorem ct_X1_putEdge {G : Cx} (hG : am_G G) (N : Nat) (x1 : Int32) (x2 : Int32) (x3 : Int32) (x4 : Int32) (σ : Sg) (r : Sg) (h : f_X1_putEdge N x1 x2 x3 x4 σ = some r) : am_Ct G 1 yX1_putEdge mX1_putEdge [.ref 7, .int x1, .int x2, .int x3, .int x4] σ (am_qv r) := by
  refine am_enter hG rfl rfl (Nat.le_of_ble_eq_true rfl) ?_
  intro K h0 X
  unfold f_X1_putEdge at h
  refine am_jump (pc' := 0) (ls' := [some (.ref 7), some (.int x1), some (.int x2), some (.int x3), some (.int x4)]) ?_ rfl ⟨rfl, rfl, rfl, rfl, rfl, trivial⟩
  refine am_aload_n X dX1_putEdge_0 rfl rfl ?_
  refine am_getf (v := .ref 47) X dX1_putEdge_1 fl_X1_27 rfl rfl (by decide) ?_
  refine am_aload_n X dX1_putEdge_4 rfl rfl ?_
  refine am_getf (v := .int (rg σ 7 6)) X dX1_putEdge_5 fl_X1_86 rfl rfl (by decide) ?_
  refine am_iload_n X dX1_putEdge_8 rfl rfl ?_
  obtain ⟨g, h⟩ := gd_some h
  refine am_iast X dX1_putEdge_9 rfl g ?_
  refine am_tops h (fun σ9 h => ?_)
  refine am_aload_n X dX1_putEdge_10 rfl rfl ?_
  refine am_getf (v := .ref 48) X dX1_putEdge_11 fl_X1_30 rfl rfl (by decide) ?_
  refine am_aload_n X dX1_putEdge_14 rfl rfl ?_
  refine am_getf (v := .int (rg σ9 7 6)) X dX1_putEdge_15 fl_X1_86 rfl rfl (by decide) ?_
  refine am_iload_n X dX1_putEdge_18 rfl rfl ?_
  obtain ⟨g, h⟩ := gd_some h
  refine am_iast X dX1_putEdge_19 rfl g ?_
  refine am_tops h (fun σ19 h => ?_)
  refine am_aload_n X dX1_putEdge_20 rfl rfl ?_
  refine am_getf (v := .ref 49) X dX1_putEdge_21 fl_X1_33 rfl rfl (by decide) ?_
  refine am_aload_n X dX1_putEdge_24 rfl rfl ?_
  refine am_getf (v := .int (rg σ19 7 6)) X dX1_putEdge_25 fl_X1_86 rfl rfl (by decide) ?_
  refine am_iload_n X dX1_putEdge_28 rfl rfl ?_
  obtain ⟨g, h⟩ := gd_some h
  refine am_iast X dX1_putEdge_29 rfl g ?_
  refine am_tops h (fun σ29 h => ?_)
  refine am_aload_n X dX1_putEdge_30 rfl rfl ?_
  refine am_getf (v := .ref 50) X dX1_putEdge_31 fl_X1_36 rfl rfl (by decide) ?_
  refine am_aload_n X dX1_putEdge_34 rfl rfl ?_
  refine am_getf (v := .int (rg σ29 7 6)) X dX1_putEdge_35 fl_X1_86 rfl rfl (by decide) ?_
  refine am_iload X dX1_putEdge_38 rfl ?_
  obtain ⟨g, h⟩ := gd_some h
  refine am_iast X dX1_putEdge_40 rfl g ?_
  refine am_tops h (fun σ40 h => ?_)
  refine am_aload_n X dX1_putEdge_41 rfl rfl ?_
  refine am_dup X dX1_putEdge_42 rfl ?_
  refine am_getf (v := .int (rg σ40 7 6)) X dX1_putEdge_43 fl_X1_86 rfl rfl (by decide) ?_
  refine am_iconst (v := (1 : Int32)) X dX1_putEdge_46 (by decide) ?_
  refine am_iadd X dX1_putEdge_47 ?_
  refine am_putfi X dX1_putEdge_48 fp_X1_86 rfl rfl ?_
  refine am_tops h (fun σ48 h => ?_)
  obtain rfl := Option.some.inj h
  exact am_vret X h0 dX1_putEdge_51 rfl ⟨rfl, rfl⟩
set_option maxRecDepth 100000 in
set_option maxHeartbeats 4000000 in
theorem ct_X1_join {G : Cx} (hG : am_G G) (N : Nat) (x1 : Int32) (x2 : Int32) (x3 : Int32) (x4 : Int32) (σ : Sg) (r : Sg) (h : f_X1_join N x1 x2 x3 x4 σ = some r) : am_Ct G 2 yX1_join mX1_join [.ref 7, .int x1, .int x2, .int x3, .int x4] σ (am_qv r) := by
  refine am_enter hG rfl rfl (Nat.le_of_ble_eq_true rfl) ?_
  intro K h0 X
  unfold f_X1_join at h
  refine am_jump (pc' := 0) (ls' := [some (.ref 7), some (.int x1), some (.int x2), some (.int x3), some (.int x4)]) ?_ rfl ⟨rfl, rfl, rfl, rfl, rfl, trivial⟩
  refine am_aload_n X dX1_join_0 rfl rfl ?_
  refine am_getf (v := .int (rg σ 7 6)) X dX1_join_1 fl_X1_86 rfl rfl (by decide) ?_
  refine am_iconst (v := (2 : Int32)) X dX1_join_4 (by decide) ?_
  refine am_iadd X dX1_join_5 ?_
  refine am_sipush (v := (140 : Int32)) X dX1_join_6 (by decide) ?_
  refine am_icmp_le (tgt := 13) X dX1_join_9 (by decide) (fun c => ?_) (fun c => ?_)
  · have h := if_t h c
    refine am_aload_n X dX1_join_13 rfl rfl ?_
    refine am_iload_n X dX1_join_14 rfl rfl ?_
    refine am_iload_n X dX1_join_15 rfl rfl ?_
    refine am_iload_n X dX1_join_16 rfl rfl ?_
    refine am_iload X dX1_join_17 rfl ?_
    obtain ⟨σ19, hc, h⟩ := bd_some h
    refine am_callv_v4 X dX1_join_19 cw_X1_99 (ct_X1_putEdge hG N _ _ _ _ _ _ hc) (Nat.le_of_ble_eq_true rfl) rfl rfl rfl rfl (Nat.le_of_ble_eq_true rfl) ?_
    refine am_aload_n X dX1_join_22 rfl rfl ?_
    refine am_iload_n X dX1_join_23 rfl rfl ?_
    refine am_iload_n X dX1_join_24 rfl rfl ?_
    refine am_iconst (v := (0 : Int32)) X dX1_join_25 (by decide) ?_
    refine am_iload X dX1_join_26 rfl ?_
    refine am_ineg X dX1_join_28 ?_
    obtain ⟨σ29, hc, h⟩ := bd_some h
    refine am_callv_v4 X dX1_join_29 cw_X1_99 (ct_X1_putEdge hG N _ _ _ _ _ _ hc) (Nat.le_of_ble_eq_true rfl) rfl rfl rfl rfl (Nat.le_of_ble_eq_true rfl) ?_
    obtain rfl := Option.some.inj h
    exact am_vret X h0 dX1_join_32 rfl ⟨rfl, rfl⟩
  · have h := if_f h c
    obtain rfl := Option.some.inj h
    exact am_vret X h0 dX1_join_12 rfl ⟨rfl, rfl⟩
set_option maxRecDepth 100000 in
set_option maxHeartbeats 4000000 in
theorem t_X1_build_151 {G : Cx} (hG : am_G G) (N : Nat) (k15 : Int32 → Int32 → Sg → Option (Sg)) (k115 : Int32 → Int32 → Int32 → Sg → Option (Sg)) (hk15 : ∀ (x1 : Int32) (x2 : Int32) (σ : Sg) (r : Sg), k15 x1 x2 σ = some r → am_Wp G mX1_build 2 (am_qv r) 15 [some (.ref 7), some (.int x1), some (.int x2), none] [] σ) (hk115 : ∀ (x1 : Int32) (x2 : Int32) (x3 : Int32) (σ : Sg) (r : Sg), k115 x1 x2 x3 σ = some r → am_Wp G mX1_build 2 (am_qv r) 115 [some (.ref 7), some (.int x1), some (.int x2), some (.int x3)] [] σ) (x1 : Int32) (x2 : Int32) (x3 : Int32) (σ : Sg) (r : Sg) (h : b_X1_build_151 N k15 k115 x1 x2 x3 σ = some r) : am_Wp G mX1_build 2 (am_qv r) 151 [some (.ref 7), some (.int x1), some (.int x2), some (.int x3)] [] σ := by
  intro K h0 X
  unfold b_X1_build_151 at h
  refine am_iinc (ls' := fun x3_151 => [some (.ref 7), some (.int x1), some (.int x2), some (.int x3_151)]) X dX1_build_151 rfl h (by decide) (by decide) rfl (fun _ => rfl) (fun x3_151 h => ?_)
  refine am_goto (tgt := 115) X dX1_build_154 (by decide) ?_
  exact am_jump (hk115 _ _ _ _ _ h K h0 X) rfl ⟨rfl, rfl, rfl, rfl, trivial⟩
set_option maxRecDepth 100000 in
set_option maxHeartbeats 4000000 in
theorem t_X1_build_115b {G : Cx} (hG : am_G G) (N : Nat) (k15 : Int32 → Int32 → Sg → Option (Sg)) (k115 : Int32 → Int32 → Int32 → Sg → Option (Sg)) (hk15 : ∀ (x1 : Int32) (x2 : Int32) (σ : Sg) (r : Sg), k15 x1 x2 σ = some r → am_Wp G mX1_build 2 (am_qv r) 15 [some (.ref 7), some (.int x1), some (.int x2), none] [] σ) (hk115 : ∀ (x1 : Int32) (x2 : Int32) (x3 : Int32) (σ : Sg) (r : Sg), k115 x1 x2 x3 σ = some r → am_Wp G mX1_build 2 (am_qv r) 115 [some (.ref 7), some (.int x1), some (.int x2), some (.int x3)] [] σ) (x1 : Int32) (x2 : Int32) (x3 : Int32) (σ : Sg) (r : Sg) (h : b_X1_build_115b N k15 k115 x1 x2 x3 σ = some r) : am_Wp G mX1_build 2 (am_qv r) 115 [some (.ref 7), some (.int x1), some (.int x2), some (.int x3)] [] σ := by
  intro K h0 X
  unfold b_X1_build_115b at h
  refine am_iload_n X dX1_build_115 rfl rfl ?_
  refine am_aload_n X dX1_build_116 rfl rfl ?_
  refine am_getf (v := .int (rg σ 7 0)) X dX1_build_117 fl_X1_54 rfl rfl (by decide) ?_
  refine am_icmp_ge (tgt := 157) X dX1_build_120 (by decide) (fun c => ?_) (fun c => ?_)
  · have h := if_t h c
    refine am_iinc (ls' := fun x2_157 => [some (.ref 7), some (.int x1), some (.int x2_157), some (.int x3)]) X dX1_build_157 rfl h (by decide) (by decide) rfl (fun _ => rfl) (fun x2_157 h => ?_)
    refine am_goto (tgt := 15) X dX1_build_160 (by decide) ?_
    exact am_jump (hk15 _ _ _ _ h K h0 X) rfl ⟨rfl, rfl, rfl, trivial⟩
  · have h := if_f h c
    refine am_aload_n X dX1_build_123 rfl rfl ?_
    refine am_getf (v := .ref 42) X dX1_build_124 fl_X1_9 rfl rfl (by decide) ?_
    refine am_iload_n X dX1_build_127 rfl rfl ?_
    obtain ⟨g, h⟩ := gd_some h
    refine am_iald X dX1_build_128 rfl g ?_
    refine am_iload_n X dX1_build_129 rfl rfl ?_
    refine am_ishr X dX1_build_130 ?_
    refine am_iconst (v := (1 : Int32)) X dX1_build_131 (by decide) ?_
    refine am_iand X dX1_build_132 ?_
    refine am_iconst (v := (1 : Int32)) X dX1_build_133 (by decide) ?_
    refine am_icmp_ne (tgt := 151) X dX1_build_134 (by decide) (fun c => ?_) (fun c => ?_)
    · have h := if_f h c
      exact am_jump (t_X1_build_151 hG N k15 k115 hk15 hk115 _ _ _ _ _ h K h0 X) rfl ⟨rfl, rfl, rfl, rfl, trivial⟩
    · have h := if_t h c
      refine am_aload_n X dX1_build_137 rfl rfl ?_
      refine am_iload_n X dX1_build_138 rfl rfl ?_
      refine am_iload_n X dX1_build_139 rfl rfl ?_
      refine am_ldc (v := (1000000 : Int32)) X dX1_build_140 (wm_r24 _ (List.mem_of_getElem? (i := 18) rfl)) ?_
      refine am_aload_n X dX1_build_142 rfl rfl ?_
      refine am_getf (v := .ref 46) X dX1_build_143 fl_X1_24 rfl rfl (by decide) ?_
      refine am_iload_n X dX1_build_146 rfl rfl ?_
      obtain ⟨g, h⟩ := gd_some h
      refine am_iald X dX1_build_147 rfl g ?_
      obtain ⟨σ148, hc, h⟩ := bd_some h
      refine am_callv_v4 X dX1_build_148 cw_X1_95 (ct_X1_join hG N _ _ _ _ _ _ hc) (Nat.le_of_ble_eq_true rfl) rfl rfl rfl rfl (Nat.le_of_ble_eq_true rfl) ?_
      exact am_jump (t_X1_build_151 hG N k15 k115 hk15 hk115 _ _ _ _ _ h K h0 X) rfl ⟨rfl, rfl, rfl, rfl, trivial⟩
set_option maxRecDepth 100000 in
set_option maxHeartbeats 4000000 in
theorem t_X1_build_115 {G : Cx} (hG : am_G G) (N : Nat) (k15 : Int32 → Int32 → Sg → Option (Sg)) (hk15 : ∀ (x1 : Int32) (x2 : Int32) (σ : Sg) (r : Sg), k15 x1 x2 σ = some r → am_Wp G mX1_build 2 (am_qv r) 15 [some (.ref 7), some (.int x1), some (.int x2), none] [] σ) : ∀ (n : Nat) (x1 : Int32) (x2 : Int32) (x3 : Int32) (σ : Sg) (r : Sg), b_X1_build_115 N k15 n x1 x2 x3 σ = some r → am_Wp G mX1_build 2 (am_qv r) 115 [some (.ref 7), some (.int x1), some (.int x2), some (.int x3)] [] σ := by
  intro n
  induction n with
  | zero => intro x1 x2 x3 σ r h; cases h
  | succ n ih => intro x1 x2 x3 σ r h; exact t_X1_build_115b hG N k15 (b_X1_build_115 N k15 n) hk15 ih x1 x2 x3 σ r h
set_option maxRecDepth 100000 in
set_option maxHeartbeats 4000000 in
theorem t_X1_build_113 {G : Cx} (hG : am_G G) (N : Nat) (k15 : Int32 → Int32 → Sg → Option (Sg)) (hk15 : ∀ (x1 : Int32) (x2 : Int32) (σ : Sg) (r : Sg), k15 x1 x2 σ = some r → am_Wp G mX1_build 2 (am_qv r) 15 [some (.ref 7), some (.int x1), some (.int x2), none] [] σ) (x1 : Int32) (x2 : Int32) (σ : Sg) (r : Sg) (h : b_X1_build_113 N k15 x1 x2 σ = some r) : am_Wp G mX1_build 2 (am_qv r) 113 [some (.ref 7), some (.int x1), some (.int x2), none] [] σ := by
  intro K h0 X
  unfold b_X1_build_113 at h
  refine am_iconst (v := (0 : Int32)) X dX1_build_113 (by decide) ?_
  refine am_istore_n (ls' := [some (.ref 7), some (.int x1), some (.int x2), some (.int (0 : Int32))]) X dX1_build_114 rfl (by decide)  rfl rfl ?_
  exact am_jump (t_X1_build_115 hG N k15 hk15 N _ _ _ _ _ h K h0 X) rfl ⟨rfl, rfl, rfl, rfl, trivial⟩
set_option maxRecDepth 100000 in
set_option maxHeartbeats 4000000 in
theorem t_X1_build_15b {G : Cx} (hG : am_G G) (N : Nat) (k15 : Int32 → Int32 → Sg → Option (Sg)) (hk15 : ∀ (x1 : Int32) (x2 : Int32) (σ : Sg) (r : Sg), k15 x1 x2 σ = some r → am_Wp G mX1_build 2 (am_qv r) 15 [some (.ref 7), some (.int x1), some (.int x2), none] [] σ) (x1 : Int32) (x2 : Int32) (σ : Sg) (r : Sg) (h : b_X1_build_15b N k15 x1 x2 σ = some r) : am_Wp G mX1_build 2 (am_qv r) 15 [some (.ref 7), some (.int x1), some (.int x2), none] [] σ := by
  intro K h0 X
  unfold b_X1_build_15b at h
  refine am_iload_n X dX1_build_15 rfl rfl ?_
  refine am_aload_n X dX1_build_16 rfl rfl ?_
  refine am_getf (v := .int (rg σ 7 0)) X dX1_build_17 fl_X1_54 rfl rfl (by decide) ?_
  refine am_icmp_ge (tgt := 163) X dX1_build_20 (by decide) (fun c => ?_) (fun c => ?_)
  · have h := if_t h c
    obtain rfl := Option.some.inj h
    exact am_vret X h0 dX1_build_163 rfl ⟨rfl, rfl⟩
  · have h := if_f h c
    refine am_aload_n X dX1_build_23 rfl rfl ?_
    refine am_getf (v := .ref 51) X dX1_build_24 fl_X1_39 rfl rfl (by decide) ?_
    refine am_iload_n X dX1_build_27 rfl rfl ?_
    refine am_aload_n X dX1_build_28 rfl rfl ?_
    refine am_getf (v := .ref 44) X dX1_build_29 fl_X1_18 rfl rfl (by decide) ?_
    refine am_iload_n X dX1_build_32 rfl rfl ?_
    obtain ⟨g, h⟩ := gd_some h
    refine am_iald X dX1_build_33 rfl g ?_
    obtain ⟨g, h⟩ := gd_some h
    refine am_iast X dX1_build_34 rfl g ?_
    refine am_tops h (fun σ34 h => ?_)
    refine am_aload_n X dX1_build_35 rfl rfl ?_
    refine am_getf (v := .ref 51) X dX1_build_36 fl_X1_39 rfl rfl (by decide) ?_
    refine am_bipush (v := (7 : Int32)) X dX1_build_39 (by decide) ?_
    refine am_dup2 X dX1_build_41 rfl rfl ?_
    obtain ⟨g, h⟩ := gd_some h
    refine am_iald X dX1_build_42 rfl g ?_
    refine am_aload_n X dX1_build_43 rfl rfl ?_
    refine am_getf (v := .ref 44) X dX1_build_44 fl_X1_18 rfl rfl (by decide) ?_
    refine am_iload_n X dX1_build_47 rfl rfl ?_
    obtain ⟨g, h⟩ := gd_some h
    refine am_iald X dX1_build_48 rfl g ?_
    refine am_isub X dX1_build_49 ?_
    obtain ⟨g, h⟩ := gd_some h
    refine am_iast X dX1_build_50 rfl g ?_
    refine am_tops h (fun σ50 h => ?_)
    refine am_aload_n X dX1_build_51 rfl rfl ?_
    refine am_iload_n X dX1_build_52 rfl rfl ?_
    refine am_bipush (v := (7 : Int32)) X dX1_build_53 (by decide) ?_
    refine am_aload_n X dX1_build_55 rfl rfl ?_
    refine am_getf (v := .ref 43) X dX1_build_56 fl_X1_15 rfl rfl (by decide) ?_
    refine am_iload_n X dX1_build_59 rfl rfl ?_
    obtain ⟨g, h⟩ := gd_some h
    refine am_iald X dX1_build_60 rfl g ?_
    refine am_iconst (v := (0 : Int32)) X dX1_build_61 (by decide) ?_
    obtain ⟨σ62, hc, h⟩ := bd_some h
    refine am_callv_v4 X dX1_build_62 cw_X1_95 (ct_X1_join hG N _ _ _ _ _ _ hc) (Nat.le_of_ble_eq_true rfl) rfl rfl rfl rfl (Nat.le_of_ble_eq_true rfl) ?_
    refine am_aload_n X dX1_build_65 rfl rfl ?_
    refine am_bipush (v := (7 : Int32)) X dX1_build_66 (by decide) ?_
    refine am_iload_n X dX1_build_68 rfl rfl ?_
    refine am_aload_n X dX1_build_69 rfl rfl ?_
    refine am_getf (v := .ref 43) X dX1_build_70 fl_X1_15 rfl rfl (by decide) ?_
    refine am_iload_n X dX1_build_73 rfl rfl ?_
    obtain ⟨g, h⟩ := gd_some h
    refine am_iald X dX1_build_74 rfl g ?_
    refine am_iconst (v := (0 : Int32)) X dX1_build_75 (by decide) ?_
    obtain ⟨σ76, hc, h⟩ := bd_some h
    refine am_callv_v4 X dX1_build_76 cw_X1_95 (ct_X1_join hG N _ _ _ _ _ _ hc) (Nat.le_of_ble_eq_true rfl) rfl rfl rfl rfl (Nat.le_of_ble_eq_true rfl) ?_
    refine am_iload_n X dX1_build_79 rfl rfl ?_
    refine am_if_eq (tgt := 113) X dX1_build_80 (by decide) (fun c => ?_) (fun c => ?_)
    · have h := if_t h c
      exact am_jump (t_X1_build_113 hG N k15 hk15 _ _ _ _ h K h0 X) rfl ⟨rfl, rfl, rfl, trivial⟩
    · have h := if_f h c
      refine am_aload_n X dX1_build_83 rfl rfl ?_
      refine am_iload_n X dX1_build_84 rfl rfl ?_
      refine am_bipush (v := (7 : Int32)) X dX1_build_85 (by decide) ?_
      refine am_ldc (v := (1000000 : Int32)) X dX1_build_87 (wm_r24 _ (List.mem_of_getElem? (i := 18) rfl)) ?_
      refine am_aload_n X dX1_build_89 rfl rfl ?_
      refine am_getf (v := .ref 45) X dX1_build_90 fl_X1_21 rfl rfl (by decide) ?_
      refine am_iload_n X dX1_build_93 rfl rfl ?_
      obtain ⟨g, h⟩ := gd_some h
      refine am_iald X dX1_build_94 rfl g ?_
      obtain ⟨σ95, hc, h⟩ := bd_some h
      refine am_callv_v4 X dX1_build_95 cw_X1_95 (ct_X1_join hG N _ _ _ _ _ _ hc) (Nat.le_of_ble_eq_true rfl) rfl rfl rfl rfl (Nat.le_of_ble_eq_true rfl) ?_
      refine am_aload_n X dX1_build_98 rfl rfl ?_
      refine am_bipush (v := (7 : Int32)) X dX1_build_99 (by decide) ?_
      refine am_iload_n X dX1_build_101 rfl rfl ?_
      refine am_ldc (v := (1000000 : Int32)) X dX1_build_102 (wm_r24 _ (List.mem_of_getElem? (i := 18) rfl)) ?_
      refine am_aload_n X dX1_build_104 rfl rfl ?_
      refine am_getf (v := .ref 45) X dX1_build_105 fl_X1_21 rfl rfl (by decide) ?_
      refine am_iload_n X dX1_build_108 rfl rfl ?_
      obtain ⟨g, h⟩ := gd_some h
      refine am_iald X dX1_build_109 rfl g ?_
      obtain ⟨σ110, hc, h⟩ := bd_some h
      refine am_callv_v4 X dX1_build_110 cw_X1_95 (ct_X1_join hG N _ _ _ _ _ _ hc) (Nat.le_of_ble_eq_true rfl) rfl rfl rfl rfl (Nat.le_of_ble_eq_true rfl) ?_
      exact am_jump (t_X1_build_113 hG N k15 hk15 _ _ _ _ h K h0 X) rfl ⟨rfl, rfl, rfl, trivial⟩
set_option maxRecDepth 100000 in
set_option maxHeartbeats 4000000 in
theorem t_X1_build_15 {G : Cx} (hG : am_G G) (N : Nat) : ∀ (n : Nat) (x1 : Int32) (x2 : Int32) (σ : Sg) (r : Sg), b_X1_build_15 N n x1 x2 σ = some r → am_Wp G mX1_build 2 (am_qv r) 15 [some (.ref 7), some (.int x1), some (.int x2), none] [] σ := by
  intro n
  induction n with
  | zero => intro x1 x2 σ r h; cases h
  | succ n ih => intro x1 x2 σ r h; exact t_X1_build_15b hG N (b_X1_build_15 N n) ih x1 x2 σ r h
set_option maxRecDepth 100000 in
set_option maxHeartbeats 4000000 in
theorem ct_X1_build {G : Cx} (hG : am_G G) (N : Nat) (x1 : Int32) (σ : Sg) (r : Sg) (h : f_X1_build N x1 σ = some r) : am_Ct G 3 yX1_build mX1_build [.ref 7, .int x1] σ (am_qv r) := by
  refine am_enter hG rfl rfl (Nat.le_of_ble_eq_true rfl) ?_
  intro K h0 X
  unfold f_X1_build at h
  refine am_jump (pc' := 0) (ls' := [some (.ref 7), some (.int x1), none, none]) ?_ rfl ⟨rfl, rfl, trivial⟩
  refine am_aload_n X dX1_build_0 rfl rfl ?_
  refine am_iconst (v := (0 : Int32)) X dX1_build_1 (by decide) ?_
  refine am_putfi X dX1_build_2 fp_X1_86 rfl rfl ?_
  refine am_tops h (fun σ2 h => ?_)
  refine am_aload_n X dX1_build_5 rfl rfl ?_
  refine am_getf (v := .ref 51) X dX1_build_6 fl_X1_39 rfl rfl (by decide) ?_
  refine am_iconst (v := (0 : Int32)) X dX1_build_9 (by decide) ?_
  obtain ⟨σ10, hc, h⟩ := bd_some h
  refine am_calls_v2 X dX1_build_10 cw_X1_89 (ct_J7_fill_53178 hG N _ _ _ hc) (Nat.le_of_ble_eq_true rfl) rfl (Nat.le_of_ble_eq_true rfl) ?_
  refine am_iconst (v := (0 : Int32)) X dX1_build_13 (by decide) ?_
  refine am_istore_n (ls' := [some (.ref 7), some (.int x1), some (.int (0 : Int32)), none]) X dX1_build_14 rfl (by decide)  rfl rfl ?_
  exact am_jump (t_X1_build_15 hG N N _ _ _ _ h K h0 X) rfl ⟨rfl, rfl, rfl, trivial⟩
set_option maxRecDepth 100000 in
set_option maxHeartbeats 4000000 in
theorem t_X1_isUnsettled_2b {G : Cx} (hG : am_G G) (N : Nat) (k2 : Int32 → Sg → Option (Int32 × Sg)) (hk2 : ∀ (x1 : Int32) (σ : Sg) (r : Int32 × Sg), k2 x1 σ = some r → am_Wp G mX1_isUnsettled 0 (am_qi r.1 r.2) 2 [some (.ref 7), some (.int x1)] [] σ) (x1 : Int32) (σ : Sg) (r : Int32 × Sg) (h : b_X1_isUnsettled_2b N k2 x1 σ = some r) : am_Wp G mX1_isUnsettled 0 (am_qi r.1 r.2) 2 [some (.ref 7), some (.int x1)] [] σ := by
  intro K h0 X
  unfold b_X1_isUnsettled_2b at h
  refine am_iload_n X dX1_isUnsettled_2 rfl rfl ?_
  refine am_bipush (v := (8 : Int32)) X dX1_isUnsettled_3 (by decide) ?_
  refine am_icmp_ge (tgt := 25) X dX1_isUnsettled_5 (by decide) (fun c => ?_) (fun c => ?_)
  · have h := if_t h c
    refine am_iconst (v := (0 : Int32)) X dX1_isUnsettled_25 (by decide) ?_
    obtain rfl := Option.some.inj h
    exact am_zret X h0 dX1_isUnsettled_26 rfl (by decide) ⟨rfl, rfl⟩
  · have h := if_f h c
    refine am_aload_n X dX1_isUnsettled_8 rfl rfl ?_
    refine am_getf (v := .ref 51) X dX1_isUnsettled_9 fl_X1_39 rfl rfl (by decide) ?_
    refine am_iload_n X dX1_isUnsettled_12 rfl rfl ?_
    obtain ⟨g, h⟩ := gd_some h
    refine am_iald X dX1_isUnsettled_13 rfl g ?_
    refine am_if_le (tgt := 19) X dX1_isUnsettled_14 (by decide) (fun c => ?_) (fun c => ?_)
    · have h := if_t h c
      refine am_iinc (ls' := fun x1_19 => [some (.ref 7), some (.int x1_19)]) X dX1_isUnsettled_19 rfl h (by decide) (by decide) rfl (fun _ => rfl) (fun x1_19 h => ?_)
      refine am_goto (tgt := 2) X dX1_isUnsettled_22 (by decide) ?_
      exact am_jump (hk2 _ _ _ h K h0 X) rfl ⟨rfl, rfl, trivial⟩
    · have h := if_f h c
      refine am_iconst (v := (1 : Int32)) X dX1_isUnsettled_17 (by decide) ?_
      obtain rfl := Option.some.inj h
      exact am_zret X h0 dX1_isUnsettled_18 rfl (by decide) ⟨rfl, rfl⟩
set_option maxRecDepth 100000 in
set_option maxHeartbeats 4000000 in
theorem t_X1_isUnsettled_2 {G : Cx} (hG : am_G G) (N : Nat) : ∀ (n : Nat) (x1 : Int32) (σ : Sg) (r : Int32 × Sg), b_X1_isUnsettled_2 N n x1 σ = some r → am_Wp G mX1_isUnsettled 0 (am_qi r.1 r.2) 2 [some (.ref 7), some (.int x1)] [] σ := by
  intro n
  induction n with
  | zero => intro x1 σ r h; cases h
  | succ n ih => intro x1 σ r h; exact t_X1_isUnsettled_2b hG N (b_X1_isUnsettled_2 N n) ih x1 σ r h
set_option maxRecDepth 100000 in
set_option maxHeartbeats 4000000 in
theorem ct_X1_isUnsettled {G : Cx} (hG : am_G G) (N : Nat) (σ : Sg) (r : Int32 × Sg) (h : f_X1_isUnsettled N σ = some r) : am_Ct G 1 yX1_isUnsettled mX1_isUnsettled [.ref 7] σ (am_qi r.1 r.2) := by
  refine am_enter hG rfl rfl (Nat.le_of_ble_eq_true rfl) ?_
  intro K h0 X
  unfold f_X1_isUnsettled at h
  refine am_jump (pc' := 0) (ls' := [some (.ref 7), none]) ?_ rfl ⟨rfl, trivial⟩
  refine am_iconst (v := (0 : Int32)) X dX1_isUnsettled_0 (by decide) ?_
  refine am_istore_n (ls' := [some (.ref 7), some (.int (0 : Int32))]) X dX1_isUnsettled_1 rfl (by decide)  rfl rfl ?_
  exact am_jump (t_X1_isUnsettled_2 hG N N _ _ _ h K h0 X) rfl ⟨rfl, rfl, trivial⟩
